section
-- ===== PART A: goes FIRST, ahead of the names: the tables' words, and 'selects' of the private methods out of them =====
/-- a private method of a class that the tables say can be made, by its rows of tables_1 -/
def lw_okq (q : MethodName × Nat) : Prop := (q.1.cls ≠ "java/lang/invoke/MethodHandle" ∧ q.1.cls ≠ "java/lang/invoke/VarHandle") ∧ Cond.instantiable q.1.cls q.2 ∈ tables_1 ∧ Cond.privateMethod q.1 ∈ tables_1 ∧ Cond.instanceMethod q.1 ∈ tables_1
theorem lw_p0 : lw_okq (⟨"TowThatJerks", "refusalOfBytes", "(I)I"⟩, 8) := ⟨⟨by decide +kernel, by decide +kernel⟩, List.mem_of_getElem? (i := 21) (by decide +kernel), List.mem_of_getElem? (i := 239) (by decide +kernel), List.mem_of_getElem? (i := 240) (by decide +kernel)⟩
theorem lw_p1 : lw_okq (⟨"TowThatJerks", "refusalOfRow", "(I)I"⟩, 8) := ⟨⟨by decide +kernel, by decide +kernel⟩, List.mem_of_getElem? (i := 21) (by decide +kernel), List.mem_of_getElem? (i := 243) (by decide +kernel), List.mem_of_getElem? (i := 244) (by decide +kernel)⟩
theorem lw_p2 : lw_okq (⟨"TowThatJerks", "refusalOfHolding", "(II)I"⟩, 8) := ⟨⟨by decide +kernel, by decide +kernel⟩, List.mem_of_getElem? (i := 21) (by decide +kernel), List.mem_of_getElem? (i := 247) (by decide +kernel), List.mem_of_getElem? (i := 248) (by decide +kernel)⟩
theorem lw_p3 : lw_okq (⟨"TowThatJerks$Tow", "become", "(LTowThatJerks$Tow;)V"⟩, 9) := ⟨⟨by decide +kernel, by decide +kernel⟩, List.mem_of_getElem? (i := 29) (by decide +kernel), List.mem_of_getElem? (i := 257) (by decide +kernel), List.mem_of_getElem? (i := 258) (by decide +kernel)⟩
theorem lw_p4 : lw_okq (⟨"TowThatJerks$Piece", "become", "(LTowThatJerks$Piece;)V"⟩, 9) := ⟨⟨by decide +kernel, by decide +kernel⟩, List.mem_of_getElem? (i := 45) (by decide +kernel), List.mem_of_getElem? (i := 261) (by decide +kernel), List.mem_of_getElem? (i := 262) (by decide +kernel)⟩
theorem lw_p5 : lw_okq (⟨"TowThatJerks$Reader", "read", "(LTowThatJerks$Shelf;LTowThatJerks$Tow;)I"⟩, 3) := ⟨⟨by decide +kernel, by decide +kernel⟩, List.mem_of_getElem? (i := 163) (by decide +kernel), List.mem_of_getElem? (i := 268) (by decide +kernel), List.mem_of_getElem? (i := 269) (by decide +kernel)⟩
theorem lw_p6 : lw_okq (⟨"TowThatJerks$Reader", "scanStatement", "(LTowThatJerks$Shelf;)Z"⟩, 3) := ⟨⟨by decide +kernel, by decide +kernel⟩, List.mem_of_getElem? (i := 163) (by decide +kernel), List.mem_of_getElem? (i := 272) (by decide +kernel), List.mem_of_getElem? (i := 273) (by decide +kernel)⟩
theorem lw_p7 : lw_okq (⟨"TowThatJerks$Shelf", "byteAt", "(I)I"⟩, 5) := ⟨⟨by decide +kernel, by decide +kernel⟩, List.mem_of_getElem? (i := 180) (by decide +kernel), List.mem_of_getElem? (i := 276) (by decide +kernel), List.mem_of_getElem? (i := 277) (by decide +kernel)⟩
theorem lw_p8 : lw_okq (⟨"TowThatJerks$Shelf", "hasPlace", "(I)Z"⟩, 5) := ⟨⟨by decide +kernel, by decide +kernel⟩, List.mem_of_getElem? (i := 180) (by decide +kernel), List.mem_of_getElem? (i := 280) (by decide +kernel), List.mem_of_getElem? (i := 281) (by decide +kernel)⟩
theorem lw_p9 : lw_okq (⟨"TowThatJerks$Reader", "scanPart", "(LTowThatJerks$Shelf;I)Z"⟩, 3) := ⟨⟨by decide +kernel, by decide +kernel⟩, List.mem_of_getElem? (i := 163) (by decide +kernel), List.mem_of_getElem? (i := 346) (by decide +kernel), List.mem_of_getElem? (i := 347) (by decide +kernel)⟩
theorem lw_p10 : lw_okq (⟨"TowThatJerks$Reader", "scanNumber", "(LTowThatJerks$Shelf;I)Z"⟩, 3) := ⟨⟨by decide +kernel, by decide +kernel⟩, List.mem_of_getElem? (i := 163) (by decide +kernel), List.mem_of_getElem? (i := 354) (by decide +kernel), List.mem_of_getElem? (i := 355) (by decide +kernel)⟩
theorem lw_p11 : lw_okq (⟨"TowThatJerks$Reader", "take", "(II)Z"⟩, 3) := ⟨⟨by decide +kernel, by decide +kernel⟩, List.mem_of_getElem? (i := 163) (by decide +kernel), List.mem_of_getElem? (i := 358) (by decide +kernel), List.mem_of_getElem? (i := 359) (by decide +kernel)⟩
theorem lw_p12 : lw_okq (⟨"TowThatJerks$Reader", "obey", "(ILTowThatJerks$Tow;)Z"⟩, 3) := ⟨⟨by decide +kernel, by decide +kernel⟩, List.mem_of_getElem? (i := 163) (by decide +kernel), List.mem_of_getElem? (i := 362) (by decide +kernel), List.mem_of_getElem? (i := 363) (by decide +kernel)⟩
theorem lw_p13 : lw_okq (⟨"TowThatJerks$Tow", "addPiece", "(III)Z"⟩, 9) := ⟨⟨by decide +kernel, by decide +kernel⟩, List.mem_of_getElem? (i := 29) (by decide +kernel), List.mem_of_getElem? (i := 366) (by decide +kernel), List.mem_of_getElem? (i := 367) (by decide +kernel)⟩
theorem lw_p14 : lw_okq (⟨"TowThatJerks$Piece", "begin", "(IIII)V"⟩, 9) := ⟨⟨by decide +kernel, by decide +kernel⟩, List.mem_of_getElem? (i := 45) (by decide +kernel), List.mem_of_getElem? (i := 371) (by decide +kernel), List.mem_of_getElem? (i := 372) (by decide +kernel)⟩
theorem lw_p15 : lw_okq (⟨"TowThatJerks$Tow", "change", "(II)Z"⟩, 9) := ⟨⟨by decide +kernel, by decide +kernel⟩, List.mem_of_getElem? (i := 29) (by decide +kernel), List.mem_of_getElem? (i := 387) (by decide +kernel), List.mem_of_getElem? (i := 388) (by decide +kernel)⟩
def lw_privs_1 : List (MethodName × Nat) := [(⟨"TowThatJerks", "refusalOfBytes", "(I)I"⟩, 8), (⟨"TowThatJerks", "refusalOfRow", "(I)I"⟩, 8), (⟨"TowThatJerks", "refusalOfHolding", "(II)I"⟩, 8), (⟨"TowThatJerks$Tow", "become", "(LTowThatJerks$Tow;)V"⟩, 9), (⟨"TowThatJerks$Piece", "become", "(LTowThatJerks$Piece;)V"⟩, 9), (⟨"TowThatJerks$Reader", "read", "(LTowThatJerks$Shelf;LTowThatJerks$Tow;)I"⟩, 3), (⟨"TowThatJerks$Reader", "scanStatement", "(LTowThatJerks$Shelf;)Z"⟩, 3), (⟨"TowThatJerks$Shelf", "byteAt", "(I)I"⟩, 5), (⟨"TowThatJerks$Shelf", "hasPlace", "(I)Z"⟩, 5), (⟨"TowThatJerks$Reader", "scanPart", "(LTowThatJerks$Shelf;I)Z"⟩, 3), (⟨"TowThatJerks$Reader", "scanNumber", "(LTowThatJerks$Shelf;I)Z"⟩, 3), (⟨"TowThatJerks$Reader", "take", "(II)Z"⟩, 3), (⟨"TowThatJerks$Reader", "obey", "(ILTowThatJerks$Tow;)Z"⟩, 3), (⟨"TowThatJerks$Tow", "addPiece", "(III)Z"⟩, 9), (⟨"TowThatJerks$Piece", "begin", "(IIII)V"⟩, 9), (⟨"TowThatJerks$Tow", "change", "(II)Z"⟩, 9)]
theorem lw_r1 : ∀ q ∈ lw_privs_1, lw_okq q := List.forall_mem_cons.mpr ⟨lw_p0, List.forall_mem_cons.mpr ⟨lw_p1, List.forall_mem_cons.mpr ⟨lw_p2, List.forall_mem_cons.mpr ⟨lw_p3, List.forall_mem_cons.mpr ⟨lw_p4, List.forall_mem_cons.mpr ⟨lw_p5, List.forall_mem_cons.mpr ⟨lw_p6, List.forall_mem_cons.mpr ⟨lw_p7, List.forall_mem_cons.mpr ⟨lw_p8, List.forall_mem_cons.mpr ⟨lw_p9, List.forall_mem_cons.mpr ⟨lw_p10, List.forall_mem_cons.mpr ⟨lw_p11, List.forall_mem_cons.mpr ⟨lw_p12, List.forall_mem_cons.mpr ⟨lw_p13, List.forall_mem_cons.mpr ⟨lw_p14, List.forall_mem_cons.mpr ⟨lw_p15, fun _ h => absurd h List.not_mem_nil⟩⟩⟩⟩⟩⟩⟩⟩⟩⟩⟩⟩⟩⟩⟩⟩
theorem lw_p16 : lw_okq (⟨"TowThatJerks$Tow", "has", "(I)Z"⟩, 9) := ⟨⟨by decide +kernel, by decide +kernel⟩, List.mem_of_getElem? (i := 29) (by decide +kernel), List.mem_of_getElem? (i := 403) (by decide +kernel), List.mem_of_getElem? (i := 404) (by decide +kernel)⟩
theorem lw_p17 : lw_okq (⟨"TowThatJerks", "layLine", "()Z"⟩, 8) := ⟨⟨by decide +kernel, by decide +kernel⟩, List.mem_of_getElem? (i := 21) (by decide +kernel), List.mem_of_getElem? (i := 416) (by decide +kernel), List.mem_of_getElem? (i := 417) (by decide +kernel)⟩
theorem lw_p18 : lw_okq (⟨"TowThatJerks$Tow", "hasLine", "()Z"⟩, 9) := ⟨⟨by decide +kernel, by decide +kernel⟩, List.mem_of_getElem? (i := 29) (by decide +kernel), List.mem_of_getElem? (i := 420) (by decide +kernel), List.mem_of_getElem? (i := 421) (by decide +kernel)⟩
theorem lw_p19 : lw_okq (⟨"TowThatJerks$Line", "begin", "(LTowThatJerks$Tow;)V"⟩, 6) := ⟨⟨by decide +kernel, by decide +kernel⟩, List.mem_of_getElem? (i := 131) (by decide +kernel), List.mem_of_getElem? (i := 424) (by decide +kernel), List.mem_of_getElem? (i := 425) (by decide +kernel)⟩
theorem lw_p20 : lw_okq (⟨"TowThatJerks$Line", "add", "(LTowThatJerks$Piece;I)V"⟩, 6) := ⟨⟨by decide +kernel, by decide +kernel⟩, List.mem_of_getElem? (i := 131) (by decide +kernel), List.mem_of_getElem? (i := 428) (by decide +kernel), List.mem_of_getElem? (i := 429) (by decide +kernel)⟩
theorem lw_p21 : lw_okq (⟨"TowThatJerks$Line", "giveOfAll", "()I"⟩, 6) := ⟨⟨by decide +kernel, by decide +kernel⟩, List.mem_of_getElem? (i := 131) (by decide +kernel), List.mem_of_getElem? (i := 432) (by decide +kernel), List.mem_of_getElem? (i := 433) (by decide +kernel)⟩
theorem lw_p22 : lw_okq (⟨"TowThatJerks$Line", "hang", "()I"⟩, 6) := ⟨⟨by decide +kernel, by decide +kernel⟩, List.mem_of_getElem? (i := 131) (by decide +kernel), List.mem_of_getElem? (i := 439) (by decide +kernel), List.mem_of_getElem? (i := 440) (by decide +kernel)⟩
theorem lw_p23 : lw_okq (⟨"TowThatJerks$Line", "slack", "()I"⟩, 6) := ⟨⟨by decide +kernel, by decide +kernel⟩, List.mem_of_getElem? (i := 131) (by decide +kernel), List.mem_of_getElem? (i := 443) (by decide +kernel), List.mem_of_getElem? (i := 444) (by decide +kernel)⟩
theorem lw_p24 : lw_okq (⟨"TowThatJerks$Line", "base", "()I"⟩, 6) := ⟨⟨by decide +kernel, by decide +kernel⟩, List.mem_of_getElem? (i := 131) (by decide +kernel), List.mem_of_getElem? (i := 448) (by decide +kernel), List.mem_of_getElem? (i := 449) (by decide +kernel)⟩
theorem lw_p25 : lw_okq (⟨"TowThatJerks$Line", "apartAt", "(I)I"⟩, 6) := ⟨⟨by decide +kernel, by decide +kernel⟩, List.mem_of_getElem? (i := 131) (by decide +kernel), List.mem_of_getElem? (i := 456) (by decide +kernel), List.mem_of_getElem? (i := 457) (by decide +kernel)⟩
theorem lw_p26 : lw_okq (⟨"TowThatJerks$Line", "riseAt", "(I)I"⟩, 6) := ⟨⟨by decide +kernel, by decide +kernel⟩, List.mem_of_getElem? (i := 131) (by decide +kernel), List.mem_of_getElem? (i := 460) (by decide +kernel), List.mem_of_getElem? (i := 461) (by decide +kernel)⟩
theorem lw_p27 : lw_okq (⟨"TowThatJerks$Line", "pullAt", "(I)I"⟩, 6) := ⟨⟨by decide +kernel, by decide +kernel⟩, List.mem_of_getElem? (i := 131) (by decide +kernel), List.mem_of_getElem? (i := 471) (by decide +kernel), List.mem_of_getElem? (i := 472) (by decide +kernel)⟩
theorem lw_p28 : lw_okq (⟨"TowThatJerks$Line", "overAt", "(I)I"⟩, 6) := ⟨⟨by decide +kernel, by decide +kernel⟩, List.mem_of_getElem? (i := 131) (by decide +kernel), List.mem_of_getElem? (i := 475) (by decide +kernel), List.mem_of_getElem? (i := 476) (by decide +kernel)⟩
theorem lw_p29 : lw_okq (⟨"TowThatJerks$Line", "pullOver", "(I)I"⟩, 6) := ⟨⟨by decide +kernel, by decide +kernel⟩, List.mem_of_getElem? (i := 131) (by decide +kernel), List.mem_of_getElem? (i := 481) (by decide +kernel), List.mem_of_getElem? (i := 482) (by decide +kernel)⟩
theorem lw_p30 : lw_okq (⟨"TowThatJerks$Tow", "passTenth", "(LTowThatJerks$Line;)I"⟩, 9) := ⟨⟨by decide +kernel, by decide +kernel⟩, List.mem_of_getElem? (i := 29) (by decide +kernel), List.mem_of_getElem? (i := 491) (by decide +kernel), List.mem_of_getElem? (i := 492) (by decide +kernel)⟩
theorem lw_p31 : lw_okq (⟨"TowThatJerks$Tow", "firstWeakerThan", "(I)I"⟩, 9) := ⟨⟨by decide +kernel, by decide +kernel⟩, List.mem_of_getElem? (i := 29) (by decide +kernel), List.mem_of_getElem? (i := 497) (by decide +kernel), List.mem_of_getElem? (i := 498) (by decide +kernel)⟩
def lw_privs_2 : List (MethodName × Nat) := [(⟨"TowThatJerks$Tow", "has", "(I)Z"⟩, 9), (⟨"TowThatJerks", "layLine", "()Z"⟩, 8), (⟨"TowThatJerks$Tow", "hasLine", "()Z"⟩, 9), (⟨"TowThatJerks$Line", "begin", "(LTowThatJerks$Tow;)V"⟩, 6), (⟨"TowThatJerks$Line", "add", "(LTowThatJerks$Piece;I)V"⟩, 6), (⟨"TowThatJerks$Line", "giveOfAll", "()I"⟩, 6), (⟨"TowThatJerks$Line", "hang", "()I"⟩, 6), (⟨"TowThatJerks$Line", "slack", "()I"⟩, 6), (⟨"TowThatJerks$Line", "base", "()I"⟩, 6), (⟨"TowThatJerks$Line", "apartAt", "(I)I"⟩, 6), (⟨"TowThatJerks$Line", "riseAt", "(I)I"⟩, 6), (⟨"TowThatJerks$Line", "pullAt", "(I)I"⟩, 6), (⟨"TowThatJerks$Line", "overAt", "(I)I"⟩, 6), (⟨"TowThatJerks$Line", "pullOver", "(I)I"⟩, 6), (⟨"TowThatJerks$Tow", "passTenth", "(LTowThatJerks$Line;)I"⟩, 9), (⟨"TowThatJerks$Tow", "firstWeakerThan", "(I)I"⟩, 9)]
theorem lw_r2 : ∀ q ∈ lw_privs_2, lw_okq q := List.forall_mem_cons.mpr ⟨lw_p16, List.forall_mem_cons.mpr ⟨lw_p17, List.forall_mem_cons.mpr ⟨lw_p18, List.forall_mem_cons.mpr ⟨lw_p19, List.forall_mem_cons.mpr ⟨lw_p20, List.forall_mem_cons.mpr ⟨lw_p21, List.forall_mem_cons.mpr ⟨lw_p22, List.forall_mem_cons.mpr ⟨lw_p23, List.forall_mem_cons.mpr ⟨lw_p24, List.forall_mem_cons.mpr ⟨lw_p25, List.forall_mem_cons.mpr ⟨lw_p26, List.forall_mem_cons.mpr ⟨lw_p27, List.forall_mem_cons.mpr ⟨lw_p28, List.forall_mem_cons.mpr ⟨lw_p29, List.forall_mem_cons.mpr ⟨lw_p30, List.forall_mem_cons.mpr ⟨lw_p31, fun _ h => absurd h List.not_mem_nil⟩⟩⟩⟩⟩⟩⟩⟩⟩⟩⟩⟩⟩⟩⟩⟩
theorem lw_p32 : lw_okq (⟨"TowThatJerks$Tow", "hurtPieces", "()V"⟩, 9) := ⟨⟨by decide +kernel, by decide +kernel⟩, List.mem_of_getElem? (i := 29) (by decide +kernel), List.mem_of_getElem? (i := 501) (by decide +kernel), List.mem_of_getElem? (i := 502) (by decide +kernel)⟩
theorem lw_p33 : lw_okq (⟨"TowThatJerks$Piece", "bear", "()V"⟩, 9) := ⟨⟨by decide +kernel, by decide +kernel⟩, List.mem_of_getElem? (i := 45) (by decide +kernel), List.mem_of_getElem? (i := 505) (by decide +kernel), List.mem_of_getElem? (i := 506) (by decide +kernel)⟩
theorem lw_p34 : lw_okq (⟨"TowThatJerks$Line", "greatestPull", "()I"⟩, 6) := ⟨⟨by decide +kernel, by decide +kernel⟩, List.mem_of_getElem? (i := 131) (by decide +kernel), List.mem_of_getElem? (i := 516) (by decide +kernel), List.mem_of_getElem? (i := 517) (by decide +kernel)⟩
theorem lw_p35 : lw_okq (⟨"TowThatJerks$Line", "whenGreatest", "()I"⟩, 6) := ⟨⟨by decide +kernel, by decide +kernel⟩, List.mem_of_getElem? (i := 131) (by decide +kernel), List.mem_of_getElem? (i := 520) (by decide +kernel), List.mem_of_getElem? (i := 521) (by decide +kernel)⟩
theorem lw_p36 : lw_okq (⟨"TowThatJerks", "partsWithin", "(I)I"⟩, 8) := ⟨⟨by decide +kernel, by decide +kernel⟩, List.mem_of_getElem? (i := 21) (by decide +kernel), List.mem_of_getElem? (i := 530) (by decide +kernel), List.mem_of_getElem? (i := 531) (by decide +kernel)⟩
theorem lw_p37 : lw_okq (⟨"TowThatJerks", "layStock", "(I)Z"⟩, 8) := ⟨⟨by decide +kernel, by decide +kernel⟩, List.mem_of_getElem? (i := 21) (by decide +kernel), List.mem_of_getElem? (i := 547) (by decide +kernel), List.mem_of_getElem? (i := 548) (by decide +kernel)⟩
theorem lw_p38 : lw_okq (⟨"TowThatJerks", "fewestTakenIn", "(LTowThatJerks$Piece;I)I"⟩, 8) := ⟨⟨by decide +kernel, by decide +kernel⟩, List.mem_of_getElem? (i := 21) (by decide +kernel), List.mem_of_getElem? (i := 566) (by decide +kernel), List.mem_of_getElem? (i := 567) (by decide +kernel)⟩
theorem lw_p39 : lw_okq (⟨"TowThatJerks", "holdsByDraws", "(I)Z"⟩, 8) := ⟨⟨by decide +kernel, by decide +kernel⟩, List.mem_of_getElem? (i := 21) (by decide +kernel), List.mem_of_getElem? (i := 580) (by decide +kernel), List.mem_of_getElem? (i := 581) (by decide +kernel)⟩
theorem lw_p40 : lw_okq (⟨"TowThatJerks$Tow", "greatestYaw", "(I)I"⟩, 9) := ⟨⟨by decide +kernel, by decide +kernel⟩, List.mem_of_getElem? (i := 29) (by decide +kernel), List.mem_of_getElem? (i := 599) (by decide +kernel), List.mem_of_getElem? (i := 600) (by decide +kernel)⟩
theorem lw_p41 : lw_okq (⟨"TowThatJerks$Tow", "passYaw", "()V"⟩, 9) := ⟨⟨by decide +kernel, by decide +kernel⟩, List.mem_of_getElem? (i := 29) (by decide +kernel), List.mem_of_getElem? (i := 603) (by decide +kernel), List.mem_of_getElem? (i := 604) (by decide +kernel)⟩
theorem lw_p42 : lw_okq (⟨"TowThatJerks", "growsWith", "(I)Z"⟩, 8) := ⟨⟨by decide +kernel, by decide +kernel⟩, List.mem_of_getElem? (i := 21) (by decide +kernel), List.mem_of_getElem? (i := 618) (by decide +kernel), List.mem_of_getElem? (i := 619) (by decide +kernel)⟩
theorem lw_p43 : lw_okq (⟨"TowThatJerks$Line", "pullsAbove", "(I)I"⟩, 6) := ⟨⟨by decide +kernel, by decide +kernel⟩, List.mem_of_getElem? (i := 131) (by decide +kernel), List.mem_of_getElem? (i := 634) (by decide +kernel), List.mem_of_getElem? (i := 635) (by decide +kernel)⟩
theorem lw_p44 : lw_okq (⟨"TowThatJerks$Shelf", "holdsLegs", "()Z"⟩, 5) := ⟨⟨by decide +kernel, by decide +kernel⟩, List.mem_of_getElem? (i := 180) (by decide +kernel), List.mem_of_getElem? (i := 646) (by decide +kernel), List.mem_of_getElem? (i := 647) (by decide +kernel)⟩
theorem lw_p45 : lw_okq (⟨"TowThatJerks", "greatestOfLegs", "(LTowThatJerks$Shelf;I)I"⟩, 8) := ⟨⟨by decide +kernel, by decide +kernel⟩, List.mem_of_getElem? (i := 21) (by decide +kernel), List.mem_of_getElem? (i := 652) (by decide +kernel), List.mem_of_getElem? (i := 653) (by decide +kernel)⟩
theorem lw_p46 : lw_okq (⟨"TowThatJerks$Shelf", "legsHeld", "()I"⟩, 5) := ⟨⟨by decide +kernel, by decide +kernel⟩, List.mem_of_getElem? (i := 180) (by decide +kernel), List.mem_of_getElem? (i := 656) (by decide +kernel), List.mem_of_getElem? (i := 657) (by decide +kernel)⟩
theorem lw_p47 : lw_okq (⟨"TowThatJerks", "legToSlow", "(LTowThatJerks$Shelf;)I"⟩, 8) := ⟨⟨by decide +kernel, by decide +kernel⟩, List.mem_of_getElem? (i := 21) (by decide +kernel), List.mem_of_getElem? (i := 663) (by decide +kernel), List.mem_of_getElem? (i := 664) (by decide +kernel)⟩
def lw_privs_3 : List (MethodName × Nat) := [(⟨"TowThatJerks$Tow", "hurtPieces", "()V"⟩, 9), (⟨"TowThatJerks$Piece", "bear", "()V"⟩, 9), (⟨"TowThatJerks$Line", "greatestPull", "()I"⟩, 6), (⟨"TowThatJerks$Line", "whenGreatest", "()I"⟩, 6), (⟨"TowThatJerks", "partsWithin", "(I)I"⟩, 8), (⟨"TowThatJerks", "layStock", "(I)Z"⟩, 8), (⟨"TowThatJerks", "fewestTakenIn", "(LTowThatJerks$Piece;I)I"⟩, 8), (⟨"TowThatJerks", "holdsByDraws", "(I)Z"⟩, 8), (⟨"TowThatJerks$Tow", "greatestYaw", "(I)I"⟩, 9), (⟨"TowThatJerks$Tow", "passYaw", "()V"⟩, 9), (⟨"TowThatJerks", "growsWith", "(I)Z"⟩, 8), (⟨"TowThatJerks$Line", "pullsAbove", "(I)I"⟩, 6), (⟨"TowThatJerks$Shelf", "holdsLegs", "()Z"⟩, 5), (⟨"TowThatJerks", "greatestOfLegs", "(LTowThatJerks$Shelf;I)I"⟩, 8), (⟨"TowThatJerks$Shelf", "legsHeld", "()I"⟩, 5), (⟨"TowThatJerks", "legToSlow", "(LTowThatJerks$Shelf;)I"⟩, 8)]
theorem lw_r3 : ∀ q ∈ lw_privs_3, lw_okq q := List.forall_mem_cons.mpr ⟨lw_p32, List.forall_mem_cons.mpr ⟨lw_p33, List.forall_mem_cons.mpr ⟨lw_p34, List.forall_mem_cons.mpr ⟨lw_p35, List.forall_mem_cons.mpr ⟨lw_p36, List.forall_mem_cons.mpr ⟨lw_p37, List.forall_mem_cons.mpr ⟨lw_p38, List.forall_mem_cons.mpr ⟨lw_p39, List.forall_mem_cons.mpr ⟨lw_p40, List.forall_mem_cons.mpr ⟨lw_p41, List.forall_mem_cons.mpr ⟨lw_p42, List.forall_mem_cons.mpr ⟨lw_p43, List.forall_mem_cons.mpr ⟨lw_p44, List.forall_mem_cons.mpr ⟨lw_p45, List.forall_mem_cons.mpr ⟨lw_p46, List.forall_mem_cons.mpr ⟨lw_p47, fun _ h => absurd h List.not_mem_nil⟩⟩⟩⟩⟩⟩⟩⟩⟩⟩⟩⟩⟩⟩⟩⟩
theorem lw_p48 : lw_okq (⟨"TowThatJerks$Shelf", "leastOfSort", "()I"⟩, 5) := ⟨⟨by decide +kernel, by decide +kernel⟩, List.mem_of_getElem? (i := 180) (by decide +kernel), List.mem_of_getElem? (i := 679) (by decide +kernel), List.mem_of_getElem? (i := 680) (by decide +kernel)⟩
theorem lw_p49 : lw_okq (⟨"TowThatJerks$Tow", "hurtOfAll", "()I"⟩, 9) := ⟨⟨by decide +kernel, by decide +kernel⟩, List.mem_of_getElem? (i := 29) (by decide +kernel), List.mem_of_getElem? (i := 696) (by decide +kernel), List.mem_of_getElem? (i := 697) (by decide +kernel)⟩
theorem lw_p50 : lw_okq (⟨"TowThatJerks$Shelf", "empty", "()V"⟩, 5) := ⟨⟨by decide +kernel, by decide +kernel⟩, List.mem_of_getElem? (i := 180) (by decide +kernel), List.mem_of_getElem? (i := 704) (by decide +kernel), List.mem_of_getElem? (i := 705) (by decide +kernel)⟩
theorem lw_p51 : lw_okq (⟨"TowThatJerks$Shelf", "keepPiece", "(LTowThatJerks$Piece;)V"⟩, 5) := ⟨⟨by decide +kernel, by decide +kernel⟩, List.mem_of_getElem? (i := 180) (by decide +kernel), List.mem_of_getElem? (i := 708) (by decide +kernel), List.mem_of_getElem? (i := 709) (by decide +kernel)⟩
theorem lw_p52 : lw_okq (⟨"TowThatJerks$Shelf", "beginRow", "(II)V"⟩, 5) := ⟨⟨by decide +kernel, by decide +kernel⟩, List.mem_of_getElem? (i := 180) (by decide +kernel), List.mem_of_getElem? (i := 717) (by decide +kernel), List.mem_of_getElem? (i := 718) (by decide +kernel)⟩
theorem lw_p53 : lw_okq (⟨"TowThatJerks$Shelf", "putLowestBits", "(II)V"⟩, 5) := ⟨⟨by decide +kernel, by decide +kernel⟩, List.mem_of_getElem? (i := 180) (by decide +kernel), List.mem_of_getElem? (i := 729) (by decide +kernel), List.mem_of_getElem? (i := 730) (by decide +kernel)⟩
theorem lw_p54 : lw_okq (⟨"TowThatJerks$Shelf", "hasPlaces", "(II)Z"⟩, 5) := ⟨⟨by decide +kernel, by decide +kernel⟩, List.mem_of_getElem? (i := 180) (by decide +kernel), List.mem_of_getElem? (i := 737) (by decide +kernel), List.mem_of_getElem? (i := 738) (by decide +kernel)⟩
theorem lw_p55 : lw_okq (⟨"TowThatJerks", "refusalOfPiece", "(I)I"⟩, 8) := ⟨⟨by decide +kernel, by decide +kernel⟩, List.mem_of_getElem? (i := 21) (by decide +kernel), List.mem_of_getElem? (i := 746) (by decide +kernel), List.mem_of_getElem? (i := 747) (by decide +kernel)⟩
theorem lw_p56 : lw_okq (⟨"TowThatJerks$Piece", "cost", "()I"⟩, 9) := ⟨⟨by decide +kernel, by decide +kernel⟩, List.mem_of_getElem? (i := 45) (by decide +kernel), List.mem_of_getElem? (i := 750) (by decide +kernel), List.mem_of_getElem? (i := 751) (by decide +kernel)⟩
theorem lw_p57 : lw_okq (⟨"TowThatJerks$Piece", "fail", "()V"⟩, 9) := ⟨⟨by decide +kernel, by decide +kernel⟩, List.mem_of_getElem? (i := 45) (by decide +kernel), List.mem_of_getElem? (i := 762) (by decide +kernel), List.mem_of_getElem? (i := 763) (by decide +kernel)⟩
theorem lw_p58 : lw_okq (⟨"java/lang/Throwable", "fillInStackTrace", "(I)Ljava/lang/Throwable;"⟩, 6) := ⟨⟨by decide +kernel, by decide +kernel⟩, List.mem_of_getElem? (i := 803) (by decide +kernel), List.mem_of_getElem? (i := 801) (by decide +kernel), List.mem_of_getElem? (i := 802) (by decide +kernel)⟩
theorem lw_p59 : lw_okq (⟨"TowThatJerks$Piece", "numberOfFailure", "()I"⟩, 9) := ⟨⟨by decide +kernel, by decide +kernel⟩, List.mem_of_getElem? (i := 45) (by decide +kernel), List.mem_of_getElem? (i := 832) (by decide +kernel), List.mem_of_getElem? (i := 833) (by decide +kernel)⟩
theorem lw_p60 : lw_okq (⟨"TowThatJerksModel", "wrongRow", "(II)I"⟩, 24) := ⟨⟨by decide +kernel, by decide +kernel⟩, List.mem_of_getElem? (i := 863) (by decide +kernel), List.mem_of_getElem? (i := 950) (by decide +kernel), List.mem_of_getElem? (i := 951) (by decide +kernel)⟩
theorem lw_p61 : lw_okq (⟨"TowThatJerksModel", "readsStatement", "()Z"⟩, 24) := ⟨⟨by decide +kernel, by decide +kernel⟩, List.mem_of_getElem? (i := 863) (by decide +kernel), List.mem_of_getElem? (i := 961) (by decide +kernel), List.mem_of_getElem? (i := 962) (by decide +kernel)⟩
theorem lw_p62 : lw_okq (⟨"TowThatJerksModel", "here", "()I"⟩, 24) := ⟨⟨by decide +kernel, by decide +kernel⟩, List.mem_of_getElem? (i := 863) (by decide +kernel), List.mem_of_getElem? (i := 965) (by decide +kernel), List.mem_of_getElem? (i := 966) (by decide +kernel)⟩
theorem lw_p63 : lw_okq (⟨"TowThatJerksModel", "readsNumber", "(I)Z"⟩, 24) := ⟨⟨by decide +kernel, by decide +kernel⟩, List.mem_of_getElem? (i := 863) (by decide +kernel), List.mem_of_getElem? (i := 969) (by decide +kernel), List.mem_of_getElem? (i := 970) (by decide +kernel)⟩
def lw_privs_4 : List (MethodName × Nat) := [(⟨"TowThatJerks$Shelf", "leastOfSort", "()I"⟩, 5), (⟨"TowThatJerks$Tow", "hurtOfAll", "()I"⟩, 9), (⟨"TowThatJerks$Shelf", "empty", "()V"⟩, 5), (⟨"TowThatJerks$Shelf", "keepPiece", "(LTowThatJerks$Piece;)V"⟩, 5), (⟨"TowThatJerks$Shelf", "beginRow", "(II)V"⟩, 5), (⟨"TowThatJerks$Shelf", "putLowestBits", "(II)V"⟩, 5), (⟨"TowThatJerks$Shelf", "hasPlaces", "(II)Z"⟩, 5), (⟨"TowThatJerks", "refusalOfPiece", "(I)I"⟩, 8), (⟨"TowThatJerks$Piece", "cost", "()I"⟩, 9), (⟨"TowThatJerks$Piece", "fail", "()V"⟩, 9), (⟨"java/lang/Throwable", "fillInStackTrace", "(I)Ljava/lang/Throwable;"⟩, 6), (⟨"TowThatJerks$Piece", "numberOfFailure", "()I"⟩, 9), (⟨"TowThatJerksModel", "wrongRow", "(II)I"⟩, 24), (⟨"TowThatJerksModel", "readsStatement", "()Z"⟩, 24), (⟨"TowThatJerksModel", "here", "()I"⟩, 24), (⟨"TowThatJerksModel", "readsNumber", "(I)Z"⟩, 24)]
theorem lw_r4 : ∀ q ∈ lw_privs_4, lw_okq q := List.forall_mem_cons.mpr ⟨lw_p48, List.forall_mem_cons.mpr ⟨lw_p49, List.forall_mem_cons.mpr ⟨lw_p50, List.forall_mem_cons.mpr ⟨lw_p51, List.forall_mem_cons.mpr ⟨lw_p52, List.forall_mem_cons.mpr ⟨lw_p53, List.forall_mem_cons.mpr ⟨lw_p54, List.forall_mem_cons.mpr ⟨lw_p55, List.forall_mem_cons.mpr ⟨lw_p56, List.forall_mem_cons.mpr ⟨lw_p57, List.forall_mem_cons.mpr ⟨lw_p58, List.forall_mem_cons.mpr ⟨lw_p59, List.forall_mem_cons.mpr ⟨lw_p60, List.forall_mem_cons.mpr ⟨lw_p61, List.forall_mem_cons.mpr ⟨lw_p62, List.forall_mem_cons.mpr ⟨lw_p63, fun _ h => absurd h List.not_mem_nil⟩⟩⟩⟩⟩⟩⟩⟩⟩⟩⟩⟩⟩⟩⟩⟩
theorem lw_p64 : lw_okq (⟨"TowThatJerksModel", "isDigit", "()Z"⟩, 24) := ⟨⟨by decide +kernel, by decide +kernel⟩, List.mem_of_getElem? (i := 863) (by decide +kernel), List.mem_of_getElem? (i := 973) (by decide +kernel), List.mem_of_getElem? (i := 974) (by decide +kernel)⟩
theorem lw_p65 : lw_okq (⟨"TowThatJerksModel", "takes", "(I)Z"⟩, 24) := ⟨⟨by decide +kernel, by decide +kernel⟩, List.mem_of_getElem? (i := 863) (by decide +kernel), List.mem_of_getElem? (i := 979) (by decide +kernel), List.mem_of_getElem? (i := 980) (by decide +kernel)⟩
theorem lw_p66 : lw_okq (⟨"TowThatJerksModel", "comes", "(I)Z"⟩, 24) := ⟨⟨by decide +kernel, by decide +kernel⟩, List.mem_of_getElem? (i := 863) (by decide +kernel), List.mem_of_getElem? (i := 986) (by decide +kernel), List.mem_of_getElem? (i := 987) (by decide +kernel)⟩
theorem lw_p67 : lw_okq (⟨"TowThatJerksModel", "isPiece", "(I)Z"⟩, 24) := ⟨⟨by decide +kernel, by decide +kernel⟩, List.mem_of_getElem? (i := 863) (by decide +kernel), List.mem_of_getElem? (i := 997) (by decide +kernel), List.mem_of_getElem? (i := 998) (by decide +kernel)⟩
theorem lw_p68 : lw_okq (⟨"TowThatJerksModel", "get", "(II)I"⟩, 24) := ⟨⟨by decide +kernel, by decide +kernel⟩, List.mem_of_getElem? (i := 863) (by decide +kernel), List.mem_of_getElem? (i := 1001) (by decide +kernel), List.mem_of_getElem? (i := 1002) (by decide +kernel)⟩
theorem lw_p69 : lw_okq (⟨"TowThatJerksModel", "isLine", "()Z"⟩, 24) := ⟨⟨by decide +kernel, by decide +kernel⟩, List.mem_of_getElem? (i := 863) (by decide +kernel), List.mem_of_getElem? (i := 1033) (by decide +kernel), List.mem_of_getElem? (i := 1034) (by decide +kernel)⟩
theorem lw_p70 : lw_okq (⟨"TowThatJerksModel", "allPieces", "()I"⟩, 24) := ⟨⟨by decide +kernel, by decide +kernel⟩, List.mem_of_getElem? (i := 863) (by decide +kernel), List.mem_of_getElem? (i := 1037) (by decide +kernel), List.mem_of_getElem? (i := 1038) (by decide +kernel)⟩
theorem lw_p71 : lw_okq (⟨"TowThatJerksModel", "sumsUp", "(I)V"⟩, 24) := ⟨⟨by decide +kernel, by decide +kernel⟩, List.mem_of_getElem? (i := 863) (by decide +kernel), List.mem_of_getElem? (i := 1041) (by decide +kernel), List.mem_of_getElem? (i := 1042) (by decide +kernel)⟩
theorem lw_p72 : lw_okq (⟨"TowThatJerksModel", "rounds", "()V"⟩, 24) := ⟨⟨by decide +kernel, by decide +kernel⟩, List.mem_of_getElem? (i := 863) (by decide +kernel), List.mem_of_getElem? (i := 1045) (by decide +kernel), List.mem_of_getElem? (i := 1046) (by decide +kernel)⟩
theorem lw_p73 : lw_okq (⟨"TowThatJerksModel", "hang", "()I"⟩, 24) := ⟨⟨by decide +kernel, by decide +kernel⟩, List.mem_of_getElem? (i := 863) (by decide +kernel), List.mem_of_getElem? (i := 1049) (by decide +kernel), List.mem_of_getElem? (i := 1050) (by decide +kernel)⟩
theorem lw_p74 : lw_okq (⟨"TowThatJerksModel", "baseOf", "()I"⟩, 24) := ⟨⟨by decide +kernel, by decide +kernel⟩, List.mem_of_getElem? (i := 863) (by decide +kernel), List.mem_of_getElem? (i := 1053) (by decide +kernel), List.mem_of_getElem? (i := 1054) (by decide +kernel)⟩
theorem lw_p75 : lw_okq (⟨"TowThatJerksModel", "apartAt", "(II)I"⟩, 24) := ⟨⟨by decide +kernel, by decide +kernel⟩, List.mem_of_getElem? (i := 863) (by decide +kernel), List.mem_of_getElem? (i := 1062) (by decide +kernel), List.mem_of_getElem? (i := 1063) (by decide +kernel)⟩
theorem lw_p76 : lw_okq (⟨"TowThatJerksModel", "rise", "(II)I"⟩, 24) := ⟨⟨by decide +kernel, by decide +kernel⟩, List.mem_of_getElem? (i := 863) (by decide +kernel), List.mem_of_getElem? (i := 1066) (by decide +kernel), List.mem_of_getElem? (i := 1067) (by decide +kernel)⟩
theorem lw_p77 : lw_okq (⟨"TowThatJerksModel", "pullAt", "(II)I"⟩, 24) := ⟨⟨by decide +kernel, by decide +kernel⟩, List.mem_of_getElem? (i := 863) (by decide +kernel), List.mem_of_getElem? (i := 1077) (by decide +kernel), List.mem_of_getElem? (i := 1078) (by decide +kernel)⟩
theorem lw_p78 : lw_okq (⟨"TowThatJerksModel", "goesTenth", "(I)I"⟩, 24) := ⟨⟨by decide +kernel, by decide +kernel⟩, List.mem_of_getElem? (i := 863) (by decide +kernel), List.mem_of_getElem? (i := 1085) (by decide +kernel), List.mem_of_getElem? (i := 1086) (by decide +kernel)⟩
theorem lw_p79 : lw_okq (⟨"TowThatJerksModel", "strengthOf", "(I)I"⟩, 24) := ⟨⟨by decide +kernel, by decide +kernel⟩, List.mem_of_getElem? (i := 863) (by decide +kernel), List.mem_of_getElem? (i := 1089) (by decide +kernel), List.mem_of_getElem? (i := 1090) (by decide +kernel)⟩
def lw_privs_5 : List (MethodName × Nat) := [(⟨"TowThatJerksModel", "isDigit", "()Z"⟩, 24), (⟨"TowThatJerksModel", "takes", "(I)Z"⟩, 24), (⟨"TowThatJerksModel", "comes", "(I)Z"⟩, 24), (⟨"TowThatJerksModel", "isPiece", "(I)Z"⟩, 24), (⟨"TowThatJerksModel", "get", "(II)I"⟩, 24), (⟨"TowThatJerksModel", "isLine", "()Z"⟩, 24), (⟨"TowThatJerksModel", "allPieces", "()I"⟩, 24), (⟨"TowThatJerksModel", "sumsUp", "(I)V"⟩, 24), (⟨"TowThatJerksModel", "rounds", "()V"⟩, 24), (⟨"TowThatJerksModel", "hang", "()I"⟩, 24), (⟨"TowThatJerksModel", "baseOf", "()I"⟩, 24), (⟨"TowThatJerksModel", "apartAt", "(II)I"⟩, 24), (⟨"TowThatJerksModel", "rise", "(II)I"⟩, 24), (⟨"TowThatJerksModel", "pullAt", "(II)I"⟩, 24), (⟨"TowThatJerksModel", "goesTenth", "(I)I"⟩, 24), (⟨"TowThatJerksModel", "strengthOf", "(I)I"⟩, 24)]
theorem lw_r5 : ∀ q ∈ lw_privs_5, lw_okq q := List.forall_mem_cons.mpr ⟨lw_p64, List.forall_mem_cons.mpr ⟨lw_p65, List.forall_mem_cons.mpr ⟨lw_p66, List.forall_mem_cons.mpr ⟨lw_p67, List.forall_mem_cons.mpr ⟨lw_p68, List.forall_mem_cons.mpr ⟨lw_p69, List.forall_mem_cons.mpr ⟨lw_p70, List.forall_mem_cons.mpr ⟨lw_p71, List.forall_mem_cons.mpr ⟨lw_p72, List.forall_mem_cons.mpr ⟨lw_p73, List.forall_mem_cons.mpr ⟨lw_p74, List.forall_mem_cons.mpr ⟨lw_p75, List.forall_mem_cons.mpr ⟨lw_p76, List.forall_mem_cons.mpr ⟨lw_p77, List.forall_mem_cons.mpr ⟨lw_p78, List.forall_mem_cons.mpr ⟨lw_p79, fun _ h => absurd h List.not_mem_nil⟩⟩⟩⟩⟩⟩⟩⟩⟩⟩⟩⟩⟩⟩⟩⟩
theorem lw_p80 : lw_okq (⟨"TowThatJerksModel", "puts", "(III)V"⟩, 24) := ⟨⟨by decide +kernel, by decide +kernel⟩, List.mem_of_getElem? (i := 863) (by decide +kernel), List.mem_of_getElem? (i := 1093) (by decide +kernel), List.mem_of_getElem? (i := 1094) (by decide +kernel)⟩
theorem lw_p81 : lw_okq (⟨"TowThatJerksModel", "greatestOf", "()I"⟩, 24) := ⟨⟨by decide +kernel, by decide +kernel⟩, List.mem_of_getElem? (i := 863) (by decide +kernel), List.mem_of_getElem? (i := 1101) (by decide +kernel), List.mem_of_getElem? (i := 1102) (by decide +kernel)⟩
theorem lw_p82 : lw_okq (⟨"TowThatJerksModel", "partsIn", "(I)I"⟩, 24) := ⟨⟨by decide +kernel, by decide +kernel⟩, List.mem_of_getElem? (i := 863) (by decide +kernel), List.mem_of_getElem? (i := 1111) (by decide +kernel), List.mem_of_getElem? (i := 1112) (by decide +kernel)⟩
theorem lw_p83 : lw_okq (⟨"TowThatJerksModel", "isFoul", "()Z"⟩, 24) := ⟨⟨by decide +kernel, by decide +kernel⟩, List.mem_of_getElem? (i := 863) (by decide +kernel), List.mem_of_getElem? (i := 1138) (by decide +kernel), List.mem_of_getElem? (i := 1139) (by decide +kernel)⟩
theorem lw_p84 : lw_okq (⟨"TowThatJerksModel", "goesYaw", "()V"⟩, 24) := ⟨⟨by decide +kernel, by decide +kernel⟩, List.mem_of_getElem? (i := 863) (by decide +kernel), List.mem_of_getElem? (i := 1166) (by decide +kernel), List.mem_of_getElem? (i := 1167) (by decide +kernel)⟩
theorem lw_p85 : lw_okq (⟨"TowThatJerksModel", "isGrowing", "()Z"⟩, 24) := ⟨⟨by decide +kernel, by decide +kernel⟩, List.mem_of_getElem? (i := 863) (by decide +kernel), List.mem_of_getElem? (i := 1181) (by decide +kernel), List.mem_of_getElem? (i := 1182) (by decide +kernel)⟩
theorem lw_p86 : lw_okq (⟨"TowThatJerksModel", "above", "(I)I"⟩, 24) := ⟨⟨by decide +kernel, by decide +kernel⟩, List.mem_of_getElem? (i := 863) (by decide +kernel), List.mem_of_getElem? (i := 1197) (by decide +kernel), List.mem_of_getElem? (i := 1198) (by decide +kernel)⟩
theorem lw_p87 : lw_okq (⟨"TowThatJerksModel", "wrongLegs", "(I)I"⟩, 24) := ⟨⟨by decide +kernel, by decide +kernel⟩, List.mem_of_getElem? (i := 863) (by decide +kernel), List.mem_of_getElem? (i := 1209) (by decide +kernel), List.mem_of_getElem? (i := 1210) (by decide +kernel)⟩
theorem lw_p88 : lw_okq (⟨"TowThatJerksModel", "greatestLegs", "(II)I"⟩, 24) := ⟨⟨by decide +kernel, by decide +kernel⟩, List.mem_of_getElem? (i := 863) (by decide +kernel), List.mem_of_getElem? (i := 1215) (by decide +kernel), List.mem_of_getElem? (i := 1216) (by decide +kernel)⟩
theorem lw_p89 : lw_okq (⟨"TowThatJerksModel", "greatestBy", "(II)I"⟩, 24) := ⟨⟨by decide +kernel, by decide +kernel⟩, List.mem_of_getElem? (i := 863) (by decide +kernel), List.mem_of_getElem? (i := 1219) (by decide +kernel), List.mem_of_getElem? (i := 1220) (by decide +kernel)⟩
theorem lw_p90 : lw_okq (⟨"TowThatJerksModel", "leastNumber", "(I)I"⟩, 24) := ⟨⟨by decide +kernel, by decide +kernel⟩, List.mem_of_getElem? (i := 863) (by decide +kernel), List.mem_of_getElem? (i := 1235) (by decide +kernel), List.mem_of_getElem? (i := 1236) (by decide +kernel)⟩
theorem lw_p91 : lw_okq (⟨"TowThatJerksModel", "priceOf", "(I)I"⟩, 24) := ⟨⟨by decide +kernel, by decide +kernel⟩, List.mem_of_getElem? (i := 863) (by decide +kernel), List.mem_of_getElem? (i := 1256) (by decide +kernel), List.mem_of_getElem? (i := 1257) (by decide +kernel)⟩
theorem lw_p92 : lw_okq (⟨"TowThatJerksModel", "wrongKept", "(I)I"⟩, 24) := ⟨⟨by decide +kernel, by decide +kernel⟩, List.mem_of_getElem? (i := 863) (by decide +kernel), List.mem_of_getElem? (i := 1280) (by decide +kernel), List.mem_of_getElem? (i := 1281) (by decide +kernel)⟩
def lw_privs_6 : List (MethodName × Nat) := [(⟨"TowThatJerksModel", "puts", "(III)V"⟩, 24), (⟨"TowThatJerksModel", "greatestOf", "()I"⟩, 24), (⟨"TowThatJerksModel", "partsIn", "(I)I"⟩, 24), (⟨"TowThatJerksModel", "isFoul", "()Z"⟩, 24), (⟨"TowThatJerksModel", "goesYaw", "()V"⟩, 24), (⟨"TowThatJerksModel", "isGrowing", "()Z"⟩, 24), (⟨"TowThatJerksModel", "above", "(I)I"⟩, 24), (⟨"TowThatJerksModel", "wrongLegs", "(I)I"⟩, 24), (⟨"TowThatJerksModel", "greatestLegs", "(II)I"⟩, 24), (⟨"TowThatJerksModel", "greatestBy", "(II)I"⟩, 24), (⟨"TowThatJerksModel", "leastNumber", "(I)I"⟩, 24), (⟨"TowThatJerksModel", "priceOf", "(I)I"⟩, 24), (⟨"TowThatJerksModel", "wrongKept", "(I)I"⟩, 24)]
theorem lw_r6 : ∀ q ∈ lw_privs_6, lw_okq q := List.forall_mem_cons.mpr ⟨lw_p80, List.forall_mem_cons.mpr ⟨lw_p81, List.forall_mem_cons.mpr ⟨lw_p82, List.forall_mem_cons.mpr ⟨lw_p83, List.forall_mem_cons.mpr ⟨lw_p84, List.forall_mem_cons.mpr ⟨lw_p85, List.forall_mem_cons.mpr ⟨lw_p86, List.forall_mem_cons.mpr ⟨lw_p87, List.forall_mem_cons.mpr ⟨lw_p88, List.forall_mem_cons.mpr ⟨lw_p89, List.forall_mem_cons.mpr ⟨lw_p90, List.forall_mem_cons.mpr ⟨lw_p91, List.forall_mem_cons.mpr ⟨lw_p92, fun _ h => absurd h List.not_mem_nil⟩⟩⟩⟩⟩⟩⟩⟩⟩⟩⟩⟩⟩
def lw_privs : List (MethodName × Nat) := lw_privs_1 ++ (lw_privs_2 ++ (lw_privs_3 ++ (lw_privs_4 ++ (lw_privs_5 ++ (lw_privs_6)))))
def lw_tbl : List Cond := k2_sels lw_privs ++ tables_1
theorem lw_privs_ok : ∀ q ∈ lw_privs, lw_okq q := by
  show ∀ q ∈ lw_privs_1 ++ (lw_privs_2 ++ (lw_privs_3 ++ (lw_privs_4 ++ (lw_privs_5 ++ (lw_privs_6))))), lw_okq q
  exact List.forall_mem_append.mpr ⟨lw_r1, List.forall_mem_append.mpr ⟨lw_r2, List.forall_mem_append.mpr ⟨lw_r3, List.forall_mem_append.mpr ⟨lw_r4, List.forall_mem_append.mpr ⟨lw_r5, lw_r6⟩⟩⟩⟩⟩
end
section
/-! ===== BEGIN words of one list among another's, by their places ===== -/
theorem goodIn_r {big : List Cond} (ws : List Cond) (ps : List Nat) (hp : ws = ps.filterMap (fun i => big[i]?)) (h : ws.all goodWord = true) : GoodIn big ws := by
  intro w hw
  have h1 := List.all_eq_true.mp h w hw
  rw [hp] at hw
  obtain ⟨i, -, hi⟩ := List.mem_filterMap.mp hw
  have hm : w ∈ big := by first | exact List.mem_of_getElem? hi | exact List.getElem?_mem hi
  exact ⟨hm, good_of_word h1⟩
theorem goodIn_app {big a b : List Cond} (ha : GoodIn big a) (hb : GoodIn big b) : GoodIn big (a ++ b) := fun w h => (List.mem_append.mp h).elim (ha w) (hb w)
theorem goodIn_ca {big a b : List Cond} {c : Cond} (ha : GoodIn big (c :: a)) (hb : GoodIn big b) : GoodIn big (c :: (a ++ b)) := fun w h => (List.mem_cons.mp h).elim (fun e => ha w (List.mem_cons.mpr (Or.inl e))) (fun h => (List.mem_append.mp h).elim (fun h => ha w (List.mem_cons.mpr (Or.inr h))) (hb w))
theorem goodIn_sub {big ws : List Cond} (hm : ∀ w ∈ ws, w ∈ big) (h : ws.all goodWord = true) : GoodIn big ws := fun w hw => ⟨hm w hw, good_of_word (List.all_eq_true.mp h w hw)⟩
/-! ===== END ===== -/

/-! ===== BEGIN exceptions that leave a method, and their catching by the caller (launches without stack traces) ===== -/
section VXA
/-! The laws vx_back, vx_callV, vx_callS, vx_callSW, vx_throw0, vx_throwS follow proofs of the library, with one case more: JvmDerived/Free/Laws.lean (Back.of_free), Shelf42/LK1.lean (callV, callS), Shelf/KitTraced.lean (throwNew0V, throwNewS). -/
/-- where a method has thrown q: the class by its name, the cell, what was written, the world -/
def vx_T (XC : String → State → State → Prop) (st : State) (q : Addr) (t : State) (mc ms : Nat) (free : Addr → Prop) : Prop :=
  ∃ (E : String) (ce : Cell) (L : List Loc), XC E st t ∧ t.heap[q]? = some ce ∧ ce.vm = .none ∧ st.vm.findClass E = some ce.cls ∧ st.WarmedH t.vm ∧ st.sameButNew ({ t with vm := st.vm } : State) L mc ms ∧ ∀ z ∈ L, free z.base
def vx_Q (Qc : Array Value → State → Outcome → State → Prop) (XC : String → State → State → Prop) (mc ms : Nat) (free : Addr → Prop) : Array Value → State → Outcome → State → Prop := fun a st o t =>
  (Qc a st o t ∧ ∃ L, FrameEnd st o t L mc ms ∧ ∀ q ∈ L, free q.base) ∨ ∃ q, o = .threw q ∧ vx_T XC st q t mc ms free
/-- a callee that returns or throws -/
def vx_Met (l : Launch) (y : MethodName) (ws : List Cond) (rm : Room) (Pc : Array Value → State → Prop) (Qc : Array Value → State → Outcome → State → Prop) (XC : String → State → State → Prop) (mc ms : Nat) (free : Addr → Prop) : Prop :=
  MetFree l y (headSpec ws rm) Pc (fun _ _ _ _ _ => True) (vx_Q Qc XC mc ms free)
def vx_Post (XC : String → State → State → Prop) (mc ms : Nat) (free : Addr → Prop) : Pt → Array Value → Addr → Pt → Prop := fun A a q B =>
  ∃ (g : JFrame) (mk : MethodId) (t : State) (L : List Loc) (E : String) (ce : Cell), B.U.heap = t.heap ∧ B.U.vm = t.vm ∧ XC E (A.U.calling g mk a) t ∧ t.heap[q]? = some ce ∧ ce.vm = .none ∧ A.U.vm.findClass E = some ce.cls ∧ B.locs = A.locs ++ L ∧ (∀ z ∈ L, free z.base) ∧ B.cells = A.cells + mc ∧ B.slots = A.slots + ms
def vx_Back (l : Launch) (R : Room) (p : Program) (e : Env) (below : List Frame) (s : State) (sargs : Array Value) (y : MethodName) (len W9 : Nat)
    (Pre : Pt → Array Value → Prop) (Post : Pt → Array Value → Option Value → Pt → Prop) (PostX : Pt → Array Value → Addr → Pt → Prop) : Prop :=
  ∀ (m : MethodId) (meth : Method) (c : Code) (A : Pt) (g : JFrame) (ig : Instr) (mk : MethodId) (a : Array Value),
    Stand p l e R s m sargs below meth c A.U A.locs A.cells A.slots → g.method = m → g.locals.size = c.maxLocals → decode c.code g.pc = .ok (ig, len) →
    2 * g.monitorRoom + (g.stack.map fun v => v.category).sum ≤ W9 → A.U.methodNamed? y = some mk → Pre A a →
    (∃ (v : Option Value) (B : Pt), Stand p l e R s m sargs below meth c B.U B.locs B.cells B.slots ∧ Post A a v B ∧
      Steps p.tables e below (doInvoke e (A.U.setTop g) [] mk a).1 (B.U.setTop { g with pc := g.pc + len, stack := v.toList ++ g.stack })) ∨
    (∃ (q : Addr) (B : Pt), Stand p l e R s m sargs below meth c B.U B.locs B.cells B.slots ∧ PostX A a q B ∧
      Steps p.tables e below (doInvoke e (A.U.setTop g) [] mk a).1 ((B.U.setTop g).pushFrame (.throwing q)))
section Payer
variable {l : Launch} {R : Room} {p : Program} {e : Env} {below : List Frame} {s : State} {sargs : Array Value} {y : MethodName} {len W9 : Nat}
theorem vx_back {ws : List Cond} {rm : Room} {Pc : Array Value → State → Prop} {Qc : Array Value → State → Outcome → State → Prop} {XC : String → State → State → Prop} {mc ms : Nat} {free : Addr → Prop} {bytes : ByteArray} {maxL : Nat} {ret : Option FieldType}
    (hM : vx_Met l y ws rm Pc Qc XC mc ms free) (hblind : FrameBlind Pc) (hrc : rm.cells = mc) (hrs : rm.slots = ms)
    (hframes : rm.frames + 1 ≤ R.frames) (hlocals : W9 + (maxL + 11) + rm.locals ≤ R.locals)
    (hws : ∀ w ∈ ws, ∀ a' U, s.WarmedH U.vm → w.before a' U = true) (hcode : Cond.code y bytes maxL ret ∈ ws) (hinit : ∀ a' U, s.WarmedH U.vm → (Cond.initialized y.cls).before a' U = true) :
    vx_Back l R p e below s sargs y len W9 (PreOf R mc ms Pc) (PostOf Qc mc ms free) (vx_Post XC mc ms free) := by
  intro m meth c A g ig mk a X hg hsize hdg hW hn hp
  have h1 : (headSpec ws rm).pre.before a A.U = true := atoms_intro fun w hw => hws w hw _ _ X.warmed
  have h2 : (Cond.code y bytes maxL ret).before a A.U = true := hws _ hcode _ _ X.warmed
  have h3 : (Cond.initialized y.cls).before a A.U = true := hinit _ _ X.warmed
  have h4 : A.cells + (headSpec ws rm).room.cells ≤ R.cells := by rw [show (headSpec ws rm).room.cells = mc from hrc]; exact hp.1
  have h5 : A.slots + (headSpec ws rm).room.slots ≤ R.slots := by rw [show (headSpec ws rm).room.slots = ms from hrs]; exact hp.2.1
  have hPc : Pc a (A.U.calling g mk a) := hblind _ _ _ _ hp.2.2
  obtain ⟨U, Ls, c0, s0⟩ := A
  dsimp only [Pt.U, Pt.locs, Pt.cells, Pt.slots] at h1 h2 h3 h4 h5 X hn hPc ⊢
  obtain ⟨methY, cY, hmY, hcY, -, hlY, -, -, -, -⟩ := Cond.code_spec hn h2
  obtain ⟨kY, hkY, -⟩ := className_of_methodNamed hn
  have hinitY : kY.init = .initialized := Cond.initialized_spec (findClass_of_methodNamed hn) hkY h3
  have h : At U g.method c below := by rw [hg]; exact X.here
  have hlocals9 : W9 + (maxL + 11) + (headSpec ws rm).room.locals ≤ R.locals := hlocals
  have happ : (headSpec ws rm).appliesLoose y e.platform (U.calling g mk a) = true :=
    Spec.appliesLoose_calling (g := g) h hdg hn hkY hinitY
      (X.room_calling (g := g) (R' := (headSpec ws rm).room) hsize hmY hcY hframes (by rw [hlY]; omega) h4 h5) h1
  obtain ⟨mid, hmid⟩ := h.above
  have hfr : (U.setTop g).frames = (.java g :: mid) ++ below := by rw [State.frames_setTop' g h.top, hmid]; rfl
  obtain ⟨o, s₂, hsteps, -, hend, hq⟩ := Steps.callFree hM p X.admits X.cas X.clock (acts := []) hfr happ hPc trivial
  have hq' : vx_Q Qc XC mc ms free a (U.calling g mk a) o s₂ := hq
  rw [State.frames_setTop' g h.top] at hend
  obtain ⟨g₀, hg0⟩ := Option.isSome_iff_exists.mp h.top
  obtain ⟨r, hr⟩ := State.topJava?_eq_some.mp hg0
  have hr' : (({ U with heap := s₂.heap, slotsUsed := s₂.slotsUsed } : State).setVm s₂.vm).frames = .java g₀ :: r := hr
  rcases hq' with ⟨hqc, L, hfe, hL⟩ | ⟨q, rfl, E, ce, L, hx, hce, hcv, hcl, hW₂, hsm, hL⟩
  · obtain ⟨⟨v, rfl⟩, hW₂, e2, q2, q3, q4, q5, q6⟩ := id hfe
    have e3 : s₂ = ({ (U.calling g mk a).setFrames s₂.frames with heap := s₂.heap, slotsUsed := s₂.slotsUsed } : State).setVm s₂.vm := by
      have : s₂ = ({ s₂ with vm := (U.calling g mk a).vm } : State).setVm s₂.vm := rfl
      rw [e2] at this
      exact this
    obtain ⟨c₂, i₂, len₂, hc₂, hd₂, hf₂⟩ := hend
    have hW' : U.WarmedH s₂.vm := hW₂
    have hcc : c₂ = c := by
      have h1 : s₂.code? g.method = U.code? g.method := by
        rw [State.code?_eq, State.code?_eq, hW'.alike.method?]
      exact Option.some.inj (hc₂.symm.trans (h1.trans h.code))
    subst hcc
    have hlen : len₂ = len := by rw [hdg] at hd₂; cases hd₂; rfl
    subst hlen
    have hs₂ : s₂ = (({ U with heap := s₂.heap, slotsUsed := s₂.slotsUsed } : State).setVm s₂.vm).setTop { g with pc := g.pc + len₂, stack := v.toList ++ g.stack } := by
      refine e3.trans ?_
      rw [hf₂, State.calling_eq h.top, State.setFrames_setFrames, State.setTop_of_frames _ hr', hr]
      rfl
    have hsame : U.sameButNew ({ U with heap := s₂.heap, slotsUsed := s₂.slotsUsed } : State) L mc ms := by
      refine ⟨?_, q2, q3, q4, q5, q6⟩
      obtain ⟨t, ht, -⟩ := State.frames_cons hr
      show ({ U with heap := s₂.heap, slotsUsed := s₂.slotsUsed } : State) = { U.setFrames U.frames with heap := s₂.heap, slotsUsed := s₂.slotsUsed }
      rw [State.setFrames_self ht]
    subst hg
    refine Or.inl ⟨v, ⟨(({ U with heap := s₂.heap, slotsUsed := s₂.slotsUsed } : State).setVm s₂.vm), Ls ++ L, c0 + mc, s0 + ms⟩,
      ⟨X.admits, X.cas, X.clock, X.frames, X.room, X.hears, X.method, X.code, (X.here.setHeapUsed s₂.heap s₂.slotsUsed).setVm hW'.alike, X.tail, State.WarmedH.trans X.warmed hW', X.limits, X.bytes, X.same.trans (hsame.setVm s.vm)⟩,
      ⟨g, mk, s₂, L, rfl, rfl, hqc, rfl, hL, rfl, rfl⟩, ?_⟩
    show Steps p.tables e below _ ((({ U with heap := s₂.heap, slotsUsed := s₂.slotsUsed } : State).setVm s₂.vm).setTop { g with pc := g.pc + len₂, stack := v.toList ++ g.stack })
    rw [← hs₂]
    exact hsteps
  · obtain ⟨e2, q2, q3, q4, q5, q6⟩ := id hsm
    have e3 : s₂ = ({ (U.calling g mk a).setFrames s₂.frames with heap := s₂.heap, slotsUsed := s₂.slotsUsed } : State).setVm s₂.vm := by
      have : s₂ = ({ s₂ with vm := (U.calling g mk a).vm } : State).setVm s₂.vm := rfl
      rw [e2] at this
      exact this
    have hf₂ : s₂.frames = .throwing q :: .java g :: U.frames.tail := hend
    have hW' : U.WarmedH s₂.vm := hW₂
    have hs₂ : s₂ = ((({ U with heap := s₂.heap, slotsUsed := s₂.slotsUsed } : State).setVm s₂.vm).setTop g).pushFrame (.throwing q) := by
      refine e3.trans ?_
      rw [hf₂, State.calling_eq h.top, State.setFrames_setFrames, State.pushFrame, State.frames_setTop _ hr', State.setTop_of_frames _ hr', State.setFrames_setFrames, hr]
      rfl
    have hsame : U.sameButNew ({ U with heap := s₂.heap, slotsUsed := s₂.slotsUsed } : State) L mc ms := by
      refine ⟨?_, q2, q3, q4, q5, q6⟩
      obtain ⟨t, ht, -⟩ := State.frames_cons hr
      show ({ U with heap := s₂.heap, slotsUsed := s₂.slotsUsed } : State) = { U.setFrames U.frames with heap := s₂.heap, slotsUsed := s₂.slotsUsed }
      rw [State.setFrames_self ht]
    subst hg
    refine Or.inr ⟨q, ⟨(({ U with heap := s₂.heap, slotsUsed := s₂.slotsUsed } : State).setVm s₂.vm), Ls ++ L, c0 + mc, s0 + ms⟩,
      ⟨X.admits, X.cas, X.clock, X.frames, X.room, X.hears, X.method, X.code, (X.here.setHeapUsed s₂.heap s₂.slotsUsed).setVm hW'.alike, X.tail, State.WarmedH.trans X.warmed hW', X.limits, X.bytes, X.same.trans (hsame.setVm s.vm)⟩,
      ⟨g, mk, s₂, L, E, ce, rfl, rfl, hx, hce, hcv, hcl, rfl, hL, rfl, rfl⟩, ?_⟩
    show Steps p.tables e below _ (((({ U with heap := s₂.heap, slotsUsed := s₂.slotsUsed } : State).setVm s₂.vm).setTop g).pushFrame (.throwing q))
    rw [← hs₂]
    exact hsteps
end Payer
section Calls
variable {p : Program} {l : Launch} {e : Env} {R : Room} {s : State} {m : MethodId} {args : Array Value} {below : List Frame} {meth : Method} {c : Code} {T : State} {locs : List Loc} {cells slots : Nat}
theorem vx_callV (X : Stand p l e R s m args below meth c T locs cells slots) (hexec : p.tables.exec = Jvm.exec) {own C : String} {index : Nat} {y : MethodName} {bytes : ByteArray} {maxL : Nat} {ret : Option FieldType}
    (hown : s.vm.findClass own = some m.cls) (hlink : (Cond.methodLink own index y).before args s = true) (hinst : (Cond.instanceMethod y).before args s = true) (hsel : (Cond.selects C y y).before args s = true)
    (hcode : (Cond.code y bytes maxL ret).before args s = true) (hy : y.cls ≠ "java/lang/invoke/MethodHandle" ∧ y.cls ≠ "java/lang/invoke/VarHandle")
    {W9 : Nat} {Pre : Pt → Array Value → Prop} {Post : Pt → Array Value → Option Value → Pt → Prop} {PostX : Pt → Array Value → Addr → Pt → Prop} (hK : vx_Back l R p e below s args y 3 W9 Pre Post PostX)
    {b : Addr} {cellB : Cell} (hcell : T.heap[b]? = some cellB) (hobj : cellB.vm.isStatics = false) (hcls : s.vm.findClass C = some cellB.cls)
    {g : JFrame} (hg : g.method = m) (hsize : g.locals.size = c.maxLocals) {argsL rest : List Value} (hlen : ∀ sig, parseMethodDescriptor y.desc = some sig → argsL.length = sig.parameters.length)
    (hstack : g.stack = argsL.reverse ++ .ref b :: rest) (hW : 2 * g.monitorRoom + (rest.map fun v => v.category).sum ≤ W9) (hdg : decode c.code g.pc = .ok (.invokevirtual index, 3))
    (hpre : ∀ vm₁, s.WarmedH vm₁ → Pre ⟨T.setVm vm₁, locs, cells, slots⟩ (Value.ref b :: argsL).toArray) :
    (∃ (v : Option Value) (vm₁ : Vm) (B : Pt), s.WarmedH vm₁ ∧ Stand p l e R s m args below meth c B.U B.locs B.cells B.slots ∧ Post ⟨T.setVm vm₁, locs, cells, slots⟩ (Value.ref b :: argsL).toArray v B ∧
      ∀ target, Steps p.tables e below (B.U.setTop { g with pc := g.pc + 3, stack := v.toList ++ rest }) target → Steps p.tables e below (T.setTop g) target) ∨
    (∃ (q : Addr) (vm₁ : Vm) (B : Pt), s.WarmedH vm₁ ∧ Stand p l e R s m args below meth c B.U B.locs B.cells B.slots ∧ PostX ⟨T.setVm vm₁, locs, cells, slots⟩ (Value.ref b :: argsL).toArray q B ∧
      Steps p.tables e below (T.setTop g) ((B.U.setTop { g with stack := rest }).pushFrame (.throwing q))) := by
  obtain ⟨mk, methM, hnamed, hmethM, hstM, habM⟩ := Cond.instanceMethod_spec hinst
  obtain ⟨methM', cM, hmethM', -, -, -, -, -, -, hsigM⟩ := Cond.code_spec hnamed hcode
  cases hmethM.symm.trans hmethM'
  obtain ⟨c2, r2, m2, q1, q2, q3, q4, kP, hkP, hkPi⟩ := Cond.selects_spec hsel
  cases hcls.symm.trans q1
  cases (State.methodFound?_of_named hnamed hy).symm.trans q2
  cases hnamed.symm.trans q3
  have hselP : selectMethod e.platform s.vm cellB.cls mk = .method mk := by rw [Launch.admits_selectMethod X.admits]; exact q4
  obtain ⟨vm₁, X₁, hstep₁⟩ := X.invokevirtual hexec hown hlink hnamed hmethM hstM hkP hkPi hy (a := b) (cell := cellB) hcell
    (fun z h => by rw [h] at hobj; cases hobj) hselP hmethM habM hkP hkPi (g := g) hg (argsL := argsL) (rest := rest) (hlen _ hsigM) hstack hdg
  rcases hK m meth c ⟨T.setVm vm₁, locs, cells, slots⟩ { g with stack := rest } (.invokevirtual index) mk (Value.ref b :: argsL).toArray X₁ hg hsize hdg hW (X₁.named hnamed) (hpre vm₁ X₁.warmed) with ⟨v, B, X', hpost, hsteps⟩ | ⟨q, B, X', hpost, hsteps⟩
  · exact Or.inl ⟨v, vm₁, B, X₁.warmed, X', hpost, fun target h => hstep₁ _ fun acts => by rw [doInvoke_state]; exact hsteps.trans h⟩
  · exact Or.inr ⟨q, vm₁, B, X₁.warmed, X', hpost, hstep₁ _ fun acts => by rw [doInvoke_state]; exact hsteps⟩
theorem vx_callS (X : Stand p l e R s m args below meth c T locs cells slots) (hexec : p.tables.exec = Jvm.exec) {own : String} {index : Nat} {y : MethodName} {bytes : ByteArray} {maxL : Nat} {ret : Option FieldType}
    (hown : s.vm.findClass own = some m.cls) (hlink : (Cond.methodLink own index y).before args s = true) (hstat : (Cond.static y).before args s = true) (hinit : (Cond.initialized y.cls).before args s = true)
    (hcode : (Cond.code y bytes maxL ret).before args s = true) (hy : y.cls ≠ "java/lang/invoke/MethodHandle" ∧ y.cls ≠ "java/lang/invoke/VarHandle")
    {W9 : Nat} {Pre : Pt → Array Value → Prop} {Post : Pt → Array Value → Option Value → Pt → Prop} {PostX : Pt → Array Value → Addr → Pt → Prop} (hK : vx_Back l R p e below s args y 3 W9 Pre Post PostX)
    {g : JFrame} (hg : g.method = m) (hsize : g.locals.size = c.maxLocals) {argsL rest : List Value} (hlen : ∀ sig, parseMethodDescriptor y.desc = some sig → argsL.length = sig.parameters.length)
    (hstack : g.stack = argsL.reverse ++ rest) (hW : 2 * g.monitorRoom + (rest.map fun v => v.category).sum ≤ W9) (hdg : decode c.code g.pc = .ok (.invokestatic index, 3))
    (hpre : ∀ vm₁, s.WarmedH vm₁ → Pre ⟨T.setVm vm₁, locs, cells, slots⟩ argsL.toArray) :
    (∃ (v : Option Value) (vm₁ : Vm) (B : Pt), s.WarmedH vm₁ ∧ Stand p l e R s m args below meth c B.U B.locs B.cells B.slots ∧ Post ⟨T.setVm vm₁, locs, cells, slots⟩ argsL.toArray v B ∧
      ∀ target, Steps p.tables e below (B.U.setTop { g with pc := g.pc + 3, stack := v.toList ++ rest }) target → Steps p.tables e below (T.setTop g) target) ∨
    (∃ (q : Addr) (vm₁ : Vm) (B : Pt), s.WarmedH vm₁ ∧ Stand p l e R s m args below meth c B.U B.locs B.cells B.slots ∧ PostX ⟨T.setVm vm₁, locs, cells, slots⟩ argsL.toArray q B ∧
      Steps p.tables e below (T.setTop g) ((B.U.setTop { g with stack := rest }).pushFrame (.throwing q))) := by
  obtain ⟨mk, hnamed⟩ := Cond.code_named hcode
  obtain ⟨methM, cM, hmethM, -, -, -, -, -, -, hsigM⟩ := Cond.code_spec hnamed hcode
  have hstatic : methM.isStatic = true := Cond.static_spec hnamed hmethM hstat
  obtain ⟨kP, hkP, -⟩ := className_of_methodNamed hnamed
  have hinitP : kP.init = .initialized := Cond.initialized_spec (findClass_of_methodNamed hnamed) hkP hinit
  obtain ⟨vm₁, X₁, hstep₁⟩ := X.invokestatic hexec hown hlink hnamed hmethM hstatic hkP hinitP hy (g := g) hg (argsL := argsL) (rest := rest) (hlen _ hsigM) hstack hdg
  rcases hK m meth c ⟨T.setVm vm₁, locs, cells, slots⟩ { g with stack := rest } (.invokestatic index) mk argsL.toArray X₁ hg hsize hdg hW (X₁.named hnamed) (hpre vm₁ X₁.warmed) with ⟨v, B, X', hpost, hsteps⟩ | ⟨q, B, X', hpost, hsteps⟩
  · exact Or.inl ⟨v, vm₁, B, X₁.warmed, X', hpost, fun target h => hstep₁ _ fun acts => by rw [doInvoke_state]; exact hsteps.trans h⟩
  · exact Or.inr ⟨q, vm₁, B, X₁.warmed, X', hpost, hstep₁ _ fun acts => by rw [doInvoke_state]; exact hsteps⟩
end Calls
theorem vx_cls {s : State} {T : State} {vm₁ : Vm} {E : String} {k : ClassId} (hW : s.WarmedH vm₁) (h : (T.setVm vm₁).vm.findClass E = some k) : s.vm.findClass E = some k := by
  have h1 : vm₁.findClass E = some k := h
  rw [hW.alike.findClass] at h1
  exact h1
/-- the method's frame g, with q thrown over it -/
def vx_W (p : Program) (l : Launch) (e : Env) (R : Room) (s : State) (m : MethodId) (args : Array Value) (below : List Frame) (meth : Method) (c : Code) (H : Heap) (locs : List Loc) (cells slots : Nat) (Q : State → Prop) (g : JFrame) (q : Addr) : Prop :=
  ∀ T : State, T.heap = H → Stand p l e R s m args below meth c T locs cells slots → ∃ t, Steps p.tables e below ((T.setTop g).pushFrame (.throwing q)) t ∧ Q t
def vx_Run (p : Program) (l : Launch) (e : Env) (R : Room) (s : State) (m : MethodId) (args : Array Value) (below : List Frame) (meth : Method) (c : Code) (H : Heap) (locs : List Loc) (cells slots mc ms : Nat) (g : JFrame) (rest : List Value) (Qa : State → Outcome → State → Prop) (XC : String → State → State → Prop) (free : Addr → Prop) : Prop :=
  ∀ T : State, T.heap = H → Stand p l e R s m args below meth c T locs cells slots →
    (∃ (v : Option Value) (st₀ t T' : State) (L : List Loc), st₀.heap = H ∧ Stand p l e R s m args below meth c T' (locs ++ L) (cells + mc) (slots + ms) ∧ (∀ q ∈ L, free q.base) ∧ T'.heap = t.heap ∧ T'.vm = t.vm ∧ Qa st₀ (.returned v) t ∧
      Goes p e below T g T' { g with pc := g.pc + 3, stack := v.toList ++ rest }) ∨
    (∃ (q : Addr) (st₀ t T' : State) (L : List Loc) (E : String) (ce : Cell), st₀.heap = H ∧ Stand p l e R s m args below meth c T' (locs ++ L) (cells + mc) (slots + ms) ∧ (∀ z ∈ L, free z.base) ∧ T'.heap = t.heap ∧ T'.vm = t.vm ∧ XC E st₀ t ∧ t.heap[q]? = some ce ∧ ce.vm = .none ∧ s.vm.findClass E = some ce.cls ∧
      Steps p.tables e below (T.setTop g) ((T'.setTop { g with stack := rest }).pushFrame (.throwing q)))
def vx_X {S : Type} (px : S → Prop) (B : String → S → State → Prop) (A : Nat → Prop) : String → State → State → Prop := fun E st t => ∃ u : S, px u ∧ B E u t ∧ va_F A st t
section Runs
variable {p : Program} {l : Launch} {e : Env} {R : Room} {s : State} {m : MethodId} {args : Array Value} {below : List Frame} {meth : Method} {c : Code} {H : Heap} {locs : List Loc} {cells slots : Nat}
variable {y : MethodName} {bytes cc : ByteArray} {maxL nL mc ms n index : Nat} {ret : Option FieldType} {ws : List Cond} {rm : Room} {Pc : Array Value → State → Prop} {Qc : Array Value → State → Outcome → State → Prop} {XC : String → State → State → Prop} {free : Addr → Prop} {Ts : List Cond} {own C : String} {b : Addr} {As rest : List Value} {g : JFrame}
theorem vx_callBack (cb : CallB R s args own index y bytes maxL ret ws rm mc ms n) (hM : vx_Met l y ws rm Pc Qc XC mc ms free) (hbl : FrameBlind Pc) : vx_Back l R p e below s args y 3 8 (PreOf R mc ms Pc) (PostOf Qc mc ms free) (vx_Post XC mc ms free) := by
  obtain ⟨hrc, hrs, hfr, hlo, hws, hcw, -, hini, -⟩ := cb
  exact vx_back (bytes := bytes) (maxL := maxL) (ret := ret) hM hbl hrc hrs hfr hlo hws hcw (fun a' U hW => word_at hW (Or.inl (by first | rfl | simp [Cond.onTables, Cond.keeps, Cond.steady])) hini)
theorem vx_runV (S : CallFix p m c cc nL s args Ts own) (hM : vx_Met l y ws rm Pc Qc XC mc ms free) (cw : CallW R s args own C index y bytes maxL ret ws rm mc ms n) (hp : PreV s H C b Pc As)
    (hg : g.method = m) (hn : As.length = n) (hsize : g.locals.size = nL) (hstack : g.stack = As.reverse ++ .ref b :: rest) (hW : 2 * g.monitorRoom + (rest.map fun v => v.category).sum ≤ 8) (hdg : decode cc g.pc = .ok (.invokevirtual index, 3)) (hf : cells + mc ≤ R.cells ∧ slots + ms ≤ R.slots) :
    vx_Run p l e R s m args below meth c H locs cells slots mc ms g rest (Qc (Value.ref b :: As).toArray) XC free := by
  have hK : vx_Back l R p e below s args y 3 8 (PreOf R mc ms Pc) (PostOf Qc mc ms free) (vx_Post XC mc ms free) := vx_callBack cw.1 hM hp.1
  obtain ⟨⟨-, -, -, -, -, -, hcode, -, hy, hlen, hl⟩, hin, hse⟩ := cw
  obtain ⟨hx, hb, hml, ho, -⟩ := S
  obtain ⟨-, ⟨cellB, hcB, hoB, hclB⟩, hPc⟩ := hp
  intro T hT X
  rcases vx_callV X hx (C := C) (bytes := bytes) (maxL := maxL) (ret := ret) ho hl hin hse hcode hy hK (by rw [hT]; exact hcB) hoB hclB hg (hsize.trans hml.symm) (argsL := As) (rest := rest) (fun sig h => hn.trans (hlen sig h)) hstack hW (by rw [hb]; exact hdg)
    (fun vm₁ hW₁ => ⟨hf.1, hf.2, hPc (T.setVm vm₁) hT hW₁⟩) with ⟨v, vm₁, ⟨U', l2, c2, s2⟩, hW₁, X', ⟨g', mk, t, L, e1, e2, hq, h1, hL, h2, h3⟩, st⟩ | ⟨q, vm₁, ⟨U', l2, c2, s2⟩, hW₁, X', ⟨g', mk, t, L, E, ce, e1, e2, hq, hce, hcv, hcl, h1, hL, h2, h3⟩, st⟩
  · dsimp only [Pt.U, Pt.locs, Pt.cells, Pt.slots] at X' e1 e2 h1 h2 h3 st
    subst h1; subst h2; subst h3
    exact Or.inl ⟨v, (T.setVm vm₁).calling g' mk (Value.ref b :: As).toArray, t, U', L, hT, X', hL, e1, e2, hq, st⟩
  · dsimp only [Pt.U, Pt.locs, Pt.cells, Pt.slots] at X' e1 e2 h1 h2 h3 st hcl
    subst h1; subst h2; subst h3
    exact Or.inr ⟨q, (T.setVm vm₁).calling g' mk (Value.ref b :: As).toArray, t, U', L, E, ce, hT, X', hL, e1, e2, hq, hce, hcv, vx_cls hW₁ hcl, st⟩
theorem vx_runS (S : CallFix p m c cc nL s args Ts own) (hM : vx_Met l y ws rm Pc Qc XC mc ms free) (cw : CallB R s args own index y bytes maxL ret ws rm mc ms n ∧ (Cond.static y).before args s = true) (hp : PreS s H Pc As)
    (hg : g.method = m) (hn : As.length = n) (hsize : g.locals.size = nL) (hstack : g.stack = As.reverse ++ rest) (hW : 2 * g.monitorRoom + (rest.map fun v => v.category).sum ≤ 8) (hdg : decode cc g.pc = .ok (.invokestatic index, 3)) (hf : cells + mc ≤ R.cells ∧ slots + ms ≤ R.slots) :
    vx_Run p l e R s m args below meth c H locs cells slots mc ms g rest (Qc As.toArray) XC free := by
  have hK : vx_Back l R p e below s args y 3 8 (PreOf R mc ms Pc) (PostOf Qc mc ms free) (vx_Post XC mc ms free) := vx_callBack cw.1 hM hp.1
  obtain ⟨⟨-, -, -, -, -, -, hcode, hini, hy, hlen, hl⟩, hstt⟩ := cw
  obtain ⟨hx, hb, hml, ho, -⟩ := S
  intro T hT X
  rcases vx_callS X hx (bytes := bytes) (maxL := maxL) (ret := ret) ho hl hstt hini hcode hy hK hg (hsize.trans hml.symm) (argsL := As) (rest := rest) (fun sig h => hn.trans (hlen sig h)) hstack hW (by rw [hb]; exact hdg)
    (fun vm₁ hW₁ => ⟨hf.1, hf.2, hp.2 (T.setVm vm₁) hT hW₁⟩) with ⟨v, vm₁, ⟨U', l2, c2, s2⟩, hW₁, X', ⟨g', mk, t, L, e1, e2, hq, h1, hL, h2, h3⟩, st⟩ | ⟨q, vm₁, ⟨U', l2, c2, s2⟩, hW₁, X', ⟨g', mk, t, L, E, ce, e1, e2, hq, hce, hcv, hcl, h1, hL, h2, h3⟩, st⟩
  · dsimp only [Pt.U, Pt.locs, Pt.cells, Pt.slots] at X' e1 e2 h1 h2 h3 st
    subst h1; subst h2; subst h3
    exact Or.inl ⟨v, (T.setVm vm₁).calling g' mk As.toArray, t, U', L, hT, X', hL, e1, e2, hq, st⟩
  · dsimp only [Pt.U, Pt.locs, Pt.cells, Pt.slots] at X' e1 e2 h1 h2 h3 st hcl
    subst h1; subst h2; subst h3
    exact Or.inr ⟨q, (T.setVm vm₁).calling g' mk As.toArray, t, U', L, E, ce, hT, X', hL, e1, e2, hq, hce, hcv, vx_cls hW₁ hcl, st⟩
end Runs
section Rows
variable {p : Program} {l : Launch} {e : Env} {R : Room} {s : State} {m : MethodId} {args : Array Value} {below : List Frame} {meth : Method} {c : Code} {H : Heap} {locs : List Loc} {cells slots : Nat} {Q : State → Prop}
variable {mc ms : Nat} {free : Addr → Prop} {A0 A1 : Nat → Prop} {H0 : Heap} {a : Array Value} {pc : Nat} {ls : Array Slot} {st0 rest : List Value}
theorem vx_keep {st₀ t T' : State} {L : List Loc} (h0 : st₀.heap = H) (e1 : T'.heap = t.heap) (hS : va_S A0 H0 H locs) (hA : ∀ q, q < H.size → A1 q → A0 q) (hf : ∀ q, free q → A0 q) (hL : ∀ q ∈ L, free q.base) (hF : va_F A1 st₀ t) :
    H.size ≤ T'.heap.size ∧ (∀ q : Nat, q < H.size → ¬ A1 q → T'.heap[q]? = H[q]?) ∧ va_S A0 H0 T'.heap (locs ++ L) := by
  obtain ⟨hz, hk⟩ := hF
  rw [h0] at hz hk
  exact ⟨by rw [e1]; exact hz, fun q h1 h2 => by rw [e1]; exact hk q h1 h2,
    ⟨Nat.le_trans hS.1 (by rw [e1]; exact hz), fun q h1 h2 => by rw [e1, hk q (Nat.lt_of_lt_of_le h1 hS.1) (fun z => h2 (hA q (Nat.lt_of_lt_of_le h1 hS.1) z))]; exact hS.2.1 q h1 h2, fun q hq => by
      rcases List.mem_append.mp hq with h | h
      · exact hS.2.2 q h
      · exact hf _ (hL q h)⟩⟩
theorem vx_calli {S SX : Type} {post : Int32 → S → Prop} {px : SX → Prop} {B : S → State → Prop} {BX : String → SX → State → Prop} {AX : Nat → Prop} (hr : vx_Run p l e R s m args below meth c H locs cells slots mc ms (F0 m pc ls st0) rest (va_Qi post B A1 a) (vx_X px BX AX) free) (hS : va_S A0 H0 H locs) (hA : ∀ q, q < H.size → A1 q → A0 q) (hf : ∀ q, free q → A0 q) (hAX : ∀ q, q < H.size → AX q → A0 q)
    (kx : ∀ (E : String) (ce : Cell) (q9 : Addr) (u : SX) (t : State) (H1 : Heap) (locs1 : List Loc), t.heap = H1 → s.vm.Alike t.vm → px u → BX E u t → H.size ≤ H1.size → (∀ q : Nat, q < H.size → ¬ AX q → H1[q]? = H[q]?) → va_S A0 H0 H1 locs1 → H1[q9]? = some ce → ce.vm = .none → s.vm.findClass E = some ce.cls → vx_W p l e R s m args below meth c H1 locs1 (cells + mc) (slots + ms) Q (F0 m pc ls rest) q9)
    (kk : ∀ (r : Int32) (u : S) (t : State) (H1 : Heap) (locs1 : List Loc), t.heap = H1 → s.vm.Alike t.vm → post r u → B u t → H.size ≤ H1.size → (∀ q : Nat, q < H.size → ¬ A1 q → H1[q]? = H[q]?) → va_S A0 H0 H1 locs1 → W p l e R s m args below meth c H1 locs1 (cells + mc) (slots + ms) Q (F0 m (pc + 3) ls (.int r :: rest))) : W p l e R s m args below meth c H locs cells slots Q (F0 m pc ls st0) := by
  intro T hT X
  rcases hr T hT X with ⟨v, st₀, t, T', L, h0, X', hL, e1, e2, ⟨⟨r, u, hv, hp, hb⟩, hF⟩, st⟩ | ⟨q, st₀, t, T', L, E, ce, h0, X', hL, e1, e2, ⟨u, hp, hb, hF⟩, hce, hcv, hcl, st⟩
  · cases hv
    obtain ⟨k1, k2, k3⟩ := vx_keep h0 e1 hS hA hf hL hF
    obtain ⟨t2, a1, b1⟩ := kk r u t T'.heap (locs ++ L) e1.symm (by rw [← e2]; exact X'.warmed.alike) hp hb k1 k2 k3 T' rfl X'
    exact ⟨t2, st t2 a1, b1⟩
  · obtain ⟨k1, k2, k3⟩ := vx_keep h0 e1 hS hAX hf hL hF
    obtain ⟨t2, a1, b1⟩ := kx E ce q u t T'.heap (locs ++ L) e1.symm (by rw [← e2]; exact X'.warmed.alike) hp hb k1 k2 k3 (by rw [e1]; exact hce) hcv hcl T' rfl X'
    exact ⟨t2, st.trans a1, b1⟩
theorem vx_calll {S SX : Type} {post : Int64 → S → Prop} {px : SX → Prop} {B : S → State → Prop} {BX : String → SX → State → Prop} {AX : Nat → Prop} (hr : vx_Run p l e R s m args below meth c H locs cells slots mc ms (F0 m pc ls st0) rest (va_Ql post B A1 a) (vx_X px BX AX) free) (hS : va_S A0 H0 H locs) (hA : ∀ q, q < H.size → A1 q → A0 q) (hf : ∀ q, free q → A0 q) (hAX : ∀ q, q < H.size → AX q → A0 q)
    (kx : ∀ (E : String) (ce : Cell) (q9 : Addr) (u : SX) (t : State) (H1 : Heap) (locs1 : List Loc), t.heap = H1 → s.vm.Alike t.vm → px u → BX E u t → H.size ≤ H1.size → (∀ q : Nat, q < H.size → ¬ AX q → H1[q]? = H[q]?) → va_S A0 H0 H1 locs1 → H1[q9]? = some ce → ce.vm = .none → s.vm.findClass E = some ce.cls → vx_W p l e R s m args below meth c H1 locs1 (cells + mc) (slots + ms) Q (F0 m pc ls rest) q9)
    (kk : ∀ (r : Int64) (u : S) (t : State) (H1 : Heap) (locs1 : List Loc), t.heap = H1 → s.vm.Alike t.vm → post r u → B u t → H.size ≤ H1.size → (∀ q : Nat, q < H.size → ¬ A1 q → H1[q]? = H[q]?) → va_S A0 H0 H1 locs1 → W p l e R s m args below meth c H1 locs1 (cells + mc) (slots + ms) Q (F0 m (pc + 3) ls (.long r :: rest))) : W p l e R s m args below meth c H locs cells slots Q (F0 m pc ls st0) := by
  intro T hT X
  rcases hr T hT X with ⟨v, st₀, t, T', L, h0, X', hL, e1, e2, ⟨⟨r, u, hv, hp, hb⟩, hF⟩, st⟩ | ⟨q, st₀, t, T', L, E, ce, h0, X', hL, e1, e2, ⟨u, hp, hb, hF⟩, hce, hcv, hcl, st⟩
  · cases hv
    obtain ⟨k1, k2, k3⟩ := vx_keep h0 e1 hS hA hf hL hF
    obtain ⟨t2, a1, b1⟩ := kk r u t T'.heap (locs ++ L) e1.symm (by rw [← e2]; exact X'.warmed.alike) hp hb k1 k2 k3 T' rfl X'
    exact ⟨t2, st t2 a1, b1⟩
  · obtain ⟨k1, k2, k3⟩ := vx_keep h0 e1 hS hAX hf hL hF
    obtain ⟨t2, a1, b1⟩ := kx E ce q u t T'.heap (locs ++ L) e1.symm (by rw [← e2]; exact X'.warmed.alike) hp hb k1 k2 k3 (by rw [e1]; exact hce) hcv hcl T' rfl X'
    exact ⟨t2, st.trans a1, b1⟩
theorem vx_callf {S SX : Type} {post : UInt32 → S → Prop} {px : SX → Prop} {B : S → State → Prop} {BX : String → SX → State → Prop} {AX : Nat → Prop} (hr : vx_Run p l e R s m args below meth c H locs cells slots mc ms (F0 m pc ls st0) rest (va_Qf post B A1 a) (vx_X px BX AX) free) (hS : va_S A0 H0 H locs) (hA : ∀ q, q < H.size → A1 q → A0 q) (hf : ∀ q, free q → A0 q) (hAX : ∀ q, q < H.size → AX q → A0 q)
    (kx : ∀ (E : String) (ce : Cell) (q9 : Addr) (u : SX) (t : State) (H1 : Heap) (locs1 : List Loc), t.heap = H1 → s.vm.Alike t.vm → px u → BX E u t → H.size ≤ H1.size → (∀ q : Nat, q < H.size → ¬ AX q → H1[q]? = H[q]?) → va_S A0 H0 H1 locs1 → H1[q9]? = some ce → ce.vm = .none → s.vm.findClass E = some ce.cls → vx_W p l e R s m args below meth c H1 locs1 (cells + mc) (slots + ms) Q (F0 m pc ls rest) q9)
    (kk : ∀ (r : UInt32) (u : S) (t : State) (H1 : Heap) (locs1 : List Loc), t.heap = H1 → s.vm.Alike t.vm → post r u → B u t → H.size ≤ H1.size → (∀ q : Nat, q < H.size → ¬ A1 q → H1[q]? = H[q]?) → va_S A0 H0 H1 locs1 → W p l e R s m args below meth c H1 locs1 (cells + mc) (slots + ms) Q (F0 m (pc + 3) ls (.float r :: rest))) : W p l e R s m args below meth c H locs cells slots Q (F0 m pc ls st0) := by
  intro T hT X
  rcases hr T hT X with ⟨v, st₀, t, T', L, h0, X', hL, e1, e2, ⟨⟨r, u, hv, hp, hb⟩, hF⟩, st⟩ | ⟨q, st₀, t, T', L, E, ce, h0, X', hL, e1, e2, ⟨u, hp, hb, hF⟩, hce, hcv, hcl, st⟩
  · cases hv
    obtain ⟨k1, k2, k3⟩ := vx_keep h0 e1 hS hA hf hL hF
    obtain ⟨t2, a1, b1⟩ := kk r u t T'.heap (locs ++ L) e1.symm (by rw [← e2]; exact X'.warmed.alike) hp hb k1 k2 k3 T' rfl X'
    exact ⟨t2, st t2 a1, b1⟩
  · obtain ⟨k1, k2, k3⟩ := vx_keep h0 e1 hS hAX hf hL hF
    obtain ⟨t2, a1, b1⟩ := kx E ce q u t T'.heap (locs ++ L) e1.symm (by rw [← e2]; exact X'.warmed.alike) hp hb k1 k2 k3 (by rw [e1]; exact hce) hcv hcl T' rfl X'
    exact ⟨t2, st.trans a1, b1⟩
theorem vx_calld {S SX : Type} {post : UInt64 → S → Prop} {px : SX → Prop} {B : S → State → Prop} {BX : String → SX → State → Prop} {AX : Nat → Prop} (hr : vx_Run p l e R s m args below meth c H locs cells slots mc ms (F0 m pc ls st0) rest (va_Qd post B A1 a) (vx_X px BX AX) free) (hS : va_S A0 H0 H locs) (hA : ∀ q, q < H.size → A1 q → A0 q) (hf : ∀ q, free q → A0 q) (hAX : ∀ q, q < H.size → AX q → A0 q)
    (kx : ∀ (E : String) (ce : Cell) (q9 : Addr) (u : SX) (t : State) (H1 : Heap) (locs1 : List Loc), t.heap = H1 → s.vm.Alike t.vm → px u → BX E u t → H.size ≤ H1.size → (∀ q : Nat, q < H.size → ¬ AX q → H1[q]? = H[q]?) → va_S A0 H0 H1 locs1 → H1[q9]? = some ce → ce.vm = .none → s.vm.findClass E = some ce.cls → vx_W p l e R s m args below meth c H1 locs1 (cells + mc) (slots + ms) Q (F0 m pc ls rest) q9)
    (kk : ∀ (r : UInt64) (u : S) (t : State) (H1 : Heap) (locs1 : List Loc), t.heap = H1 → s.vm.Alike t.vm → post r u → B u t → H.size ≤ H1.size → (∀ q : Nat, q < H.size → ¬ A1 q → H1[q]? = H[q]?) → va_S A0 H0 H1 locs1 → W p l e R s m args below meth c H1 locs1 (cells + mc) (slots + ms) Q (F0 m (pc + 3) ls (.double r :: rest))) : W p l e R s m args below meth c H locs cells slots Q (F0 m pc ls st0) := by
  intro T hT X
  rcases hr T hT X with ⟨v, st₀, t, T', L, h0, X', hL, e1, e2, ⟨⟨r, u, hv, hp, hb⟩, hF⟩, st⟩ | ⟨q, st₀, t, T', L, E, ce, h0, X', hL, e1, e2, ⟨u, hp, hb, hF⟩, hce, hcv, hcl, st⟩
  · cases hv
    obtain ⟨k1, k2, k3⟩ := vx_keep h0 e1 hS hA hf hL hF
    obtain ⟨t2, a1, b1⟩ := kk r u t T'.heap (locs ++ L) e1.symm (by rw [← e2]; exact X'.warmed.alike) hp hb k1 k2 k3 T' rfl X'
    exact ⟨t2, st t2 a1, b1⟩
  · obtain ⟨k1, k2, k3⟩ := vx_keep h0 e1 hS hAX hf hL hF
    obtain ⟨t2, a1, b1⟩ := kx E ce q u t T'.heap (locs ++ L) e1.symm (by rw [← e2]; exact X'.warmed.alike) hp hb k1 k2 k3 (by rw [e1]; exact hce) hcv hcl T' rfl X'
    exact ⟨t2, st.trans a1, b1⟩
theorem vx_callv {S SX : Type} {post : S → Prop} {px : SX → Prop} {B : S → State → Prop} {BX : String → SX → State → Prop} {AX : Nat → Prop} (hr : vx_Run p l e R s m args below meth c H locs cells slots mc ms (F0 m pc ls st0) rest (va_Qv post B A1 a) (vx_X px BX AX) free) (hS : va_S A0 H0 H locs) (hA : ∀ q, q < H.size → A1 q → A0 q) (hf : ∀ q, free q → A0 q) (hAX : ∀ q, q < H.size → AX q → A0 q)
    (kx : ∀ (E : String) (ce : Cell) (q9 : Addr) (u : SX) (t : State) (H1 : Heap) (locs1 : List Loc), t.heap = H1 → s.vm.Alike t.vm → px u → BX E u t → H.size ≤ H1.size → (∀ q : Nat, q < H.size → ¬ AX q → H1[q]? = H[q]?) → va_S A0 H0 H1 locs1 → H1[q9]? = some ce → ce.vm = .none → s.vm.findClass E = some ce.cls → vx_W p l e R s m args below meth c H1 locs1 (cells + mc) (slots + ms) Q (F0 m pc ls rest) q9)
    (kk : ∀ (u : S) (t : State) (H1 : Heap) (locs1 : List Loc), t.heap = H1 → s.vm.Alike t.vm → post u → B u t → H.size ≤ H1.size → (∀ q : Nat, q < H.size → ¬ A1 q → H1[q]? = H[q]?) → va_S A0 H0 H1 locs1 → W p l e R s m args below meth c H1 locs1 (cells + mc) (slots + ms) Q (F0 m (pc + 3) ls (rest))) : W p l e R s m args below meth c H locs cells slots Q (F0 m pc ls st0) := by
  intro T hT X
  rcases hr T hT X with ⟨v, st₀, t, T', L, h0, X', hL, e1, e2, ⟨⟨u, hv, hp, hb⟩, hF⟩, st⟩ | ⟨q, st₀, t, T', L, E, ce, h0, X', hL, e1, e2, ⟨u, hp, hb, hF⟩, hce, hcv, hcl, st⟩
  · cases hv
    obtain ⟨k1, k2, k3⟩ := vx_keep h0 e1 hS hA hf hL hF
    obtain ⟨t2, a1, b1⟩ := kk u t T'.heap (locs ++ L) e1.symm (by rw [← e2]; exact X'.warmed.alike) hp hb k1 k2 k3 T' rfl X'
    exact ⟨t2, st t2 a1, b1⟩
  · obtain ⟨k1, k2, k3⟩ := vx_keep h0 e1 hS hAX hf hL hF
    obtain ⟨t2, a1, b1⟩ := kx E ce q u t T'.heap (locs ++ L) e1.symm (by rw [← e2]; exact X'.warmed.alike) hp hb k1 k2 k3 (by rw [e1]; exact hce) hcv hcl T' rfl X'
    exact ⟨t2, st.trans a1, b1⟩
/-- caught by the row x of this method's table; the rows ahead don't take it -/
theorem vx_catch {own name : String} {E : String} {ce : Cell} {q : Addr} (hown : s.vm.findClass own = some m.cls) (pre : List ExceptionTableEntry) (x : ExceptionTableEntry) (suf : List ExceptionTableEntry) (hsplit : c.exceptionTable.toList = pre ++ x :: suf)
    (hpass : ∀ z ∈ pre, covers z pc = false ∨ (z.catchType ≠ 0 ∧ ∃ nm : String, (Cond.classLink own z.catchType nm).before args s = true ∧ va_Nc E nm s)) (hx : covers x pc = true) (h0 : x.catchType ≠ 0)
    (hlink : (Cond.classLink own x.catchType name).before args s = true) (hcast : (Cond.castable E name).before args s = true) (hcell : H[q]? = some ce) (hv : ce.vm = .none) (hcl : s.vm.findClass E = some ce.cls)
    (kk : W p l e R s m args below meth c H locs cells slots Q (F0 m x.handlerPc ls [.ref q])) : vx_W p l e R s m args below meth c H locs cells slots Q (F0 m pc ls rest) q := by
  intro T hT X
  have hpl : e.platform.magicAccessors = ({} : Platform).magicAccessors := by rw [X.admits.platform]
  obtain ⟨c3, c4, hc3, hc4, hasg⟩ := Cond.castable_spec hcast
  cases Option.some.inj (hc3.symm.trans hcl)
  obtain ⟨c5, hc5, hcl5⟩ := Cond.classLink_spec hown hlink e.platform hpl
  cases Option.some.inj (hc4.symm.trans hc5)
  obtain ⟨vm', X', st⟩ := X.thenCaughtThrough q (g := F0 m pc ls rest) rfl (Steps.refl _) (by rw [hT]; exact hcell) (by rw [hv]; rfl) (by obtain ⟨k9, h9, -⟩ := Vm.findClass_spec hcl; exact ⟨k9, h9⟩) pre x suf hsplit
    (fun z hz => by
      rcases hpass z hz with h | ⟨hz0, nm, hl1, hn1⟩
      · exact Or.inl h
      · obtain ⟨c6, hc6, hcl6⟩ := Cond.classLink_spec hown hl1 e.platform hpl
        obtain ⟨a8, b8, h1, h2, h3⟩ := hn1
        cases Option.some.inj (h1.symm.trans hcl)
        cases Option.some.inj (h2.symm.trans hc6)
        exact Or.inr ⟨hz0, _, hcl6, h3⟩) hx (Or.inr ⟨h0, c4, hcl5, hasg⟩)
  obtain ⟨t, a1, b1⟩ := kk (T.setVm vm') hT X'
  exact ⟨t, st.trans a1, b1⟩
end Rows
section Ends
variable {p : Program} {l : Launch} {e : Env} {R : Room} {s : State} {m : MethodId} {args : Array Value} {below : List Frame} {meth : Method} {c : Code} {H : Heap} {locs : List Loc} {cells slots : Nat} {Q : State → Prop}
variable {mc ms : Nat} {free : Addr → Prop} {A0 A1 : Nat → Prop} {H0 : Heap} {a : Array Value} {ls : Array Slot} {st0 rest : List Value}
variable {Qc : Array Value → State → Outcome → State → Prop} {XC : String → State → State → Prop}
/-- what a body that may throw owes at its end -/
def vx_MQ (below : List Frame) (Qc : Array Value → State → Outcome → State → Prop) (XC : String → State → State → Prop) (a : Array Value) (s : State) (mc ms : Nat) (free : Addr → Prop) : State → Prop := fun t =>
  ∃ o, t.status = .running ∧ Ended t below o ∧ vx_Q Qc XC mc ms free a s o t
theorem vx_ret {g : JFrame} {mc ms : Nat} (k : W p l e R s m args below meth c H locs cells slots (MQ below Qc args s mc ms free) g) : W p l e R s m args below meth c H locs cells slots (vx_MQ below Qc XC args s mc ms free) g := by
  intro T hT X
  obtain ⟨t, a1, o, b1, b2, b3, b4⟩ := k T hT X
  exact ⟨t, a1, o, b1, b2, Or.inl ⟨b3, b4⟩⟩
/-- not caught here: it goes on to the caller -/
theorem vx_widen {g : JFrame} {q : Addr} {k n : Nat} (h1 : cells ≤ k) (h2 : slots ≤ n) (kk : vx_W p l e R s m args below meth c H locs k n Q g q) : vx_W p l e R s m args below meth c H locs cells slots Q g q := fun T hT X => kk T hT (stand_widen X h1 h2)
theorem vx_out {pc : Nat} {E : String} {ce : Cell} {q : Addr} {mc ms : Nat} (hout : ∀ x ∈ c.exceptionTable.toList, covers x pc = false) (hlocks : meth.locks = false) (hcell : H[q]? = some ce) (hv : ce.vm = .none) (hcl : s.vm.findClass E = some ce.cls)
    (hx : ∀ t : State, t.heap = H → s.vm.Alike t.vm → XC E s t) (hf : ∀ z ∈ locs, free z.base) (hc : cells ≤ mc) (hs : slots ≤ ms) :
    vx_W p l e R s m args below meth c H locs cells slots (vx_MQ below Qc XC args s mc ms free) (F0 m pc ls rest) q := by
  intro T hT X
  obtain ⟨st1, hrun, hend, hW, hsm⟩ := X.leaveThrown q (g := F0 m pc ls rest) rfl rfl rfl hout hlocks
  have hcell9 : (T.setFrames (.throwing q :: below)).heap[q]? = some ce := by
    show T.heap[q]? = some ce
    rw [hT]; exact hcell
  exact ⟨_, st1, .threw q, hrun, hend, Or.inr ⟨q, rfl, E, ce, locs, hx _ hT hW.alike, hcell9, hv, hcl, hW, hsm.mono hc hs, hf⟩⟩
theorem vx_frame {U : State} {k n : Nat} (h : s.sameButNew ({ U with vm := s.vm } : State) locs k n) : s.heap.size ≤ U.heap.size ∧ ∀ q : Nat, q < s.heap.size → (∀ z ∈ locs, z.base ≠ q) → U.heap[q]? = s.heap[q]? := by
  obtain ⟨-, h2, -, -, -, h6⟩ := h
  refine ⟨h2, fun q hq hz => ?_⟩
  obtain ⟨c9, e1, e2, e3, e4⟩ := h6 q _ (Array.getElem?_eq_getElem hq)
  have hs : c9.slots = (s.heap[q]).slots := Array.ext_getElem? fun i => e4 i fun hm => hz _ hm rfl
  have h9 : c9 = s.heap[q] := by
    rw [hs] at e2
    exact e2
  have e5 : U.heap[q]? = some c9 := e1
  rw [e5, h9, Array.getElem?_eq_getElem hq]
/-- the words of a throw but the four that speak of the heap -/
def vx_no (w : Cond) : Bool := decide (w ≠ .isRef (.static Bundle.tN "UNASSIGNED_STACK" Bundle.steD)) && decide (w ≠ .isRef (.static Bundle.tN "SUPPRESSED_SENTINEL" Bundle.listD)) && decide (w ≠ .laysStatic Bundle.tN "UNASSIGNED_STACK" Bundle.steD) && decide (w ≠ .laysStatic Bundle.tN "SUPPRESSED_SENTINEL" Bundle.listD)
def vx_at0 (own : String) (ic : Nat) (X : String) (names : List String) : List Cond := (Bundle.ownAtoms0 own ic X names).filter vx_no
def vx_atS (own : String) (ic : Nat) (X : String) (names : List String) : List Cond := (Bundle.ownAtoms own ic X names).filter vx_no
/-- a word that the tables alone decide, or a good one -/
def vx_ot (w : Cond) : Bool := w.onTables || goodWord w
theorem vx_ot_at {args a' : Array Value} {s U : State} {w : Cond} (hW : s.WarmedH U.vm) (hvm : s.vm = U.vm) (hg : vx_ot w = true) (h : w.before args s = true) : w.before a' U = true := by
  simp only [vx_ot, Bool.or_eq_true] at hg
  rcases hg with hg | hg
  · exact va_tabs hg hvm h
  · exact word_at hW (good_of_word hg) h
/-- a list's words: the good ones out of the method's own list, the others by premises of their own -/
theorem vx_hat {args : Array Value} {s : State} {L B : List Cond} (h1 : ∀ w ∈ L.filter goodWord, w.before args s = true) (h2 : ∀ w ∈ L.filter (fun w => !goodWord w), w ∈ B) (h3 : ∀ w ∈ B, w.before args s = true) : ∀ w ∈ L, w.before args s = true := by
  intro w hw
  by_cases g : goodWord w = true
  · exact h1 w (List.mem_filter.mpr ⟨hw, g⟩)
  · refine h3 w (h2 w (List.mem_filter.mpr ⟨hw, ?_⟩))
    show (!goodWord w) = true
    cases hgw : goodWord w
    · rfl
    · exact absurd hgw g
theorem vx_c {args : Array Value} {s : State} {w : Cond} {B : List Cond} (h : w.before args s = true) (t : ∀ w ∈ B, w.before args s = true) : ∀ w' ∈ w :: B, w'.before args s = true := fun w' h' => (List.mem_cons.mp h').elim (fun e => by rw [e]; exact h) (t w')
theorem vx_n {args : Array Value} {s : State} : ∀ w ∈ ([] : List Cond), w.before args s = true := fun _ h => nomatch h
theorem vx_own {args : Array Value} {s : State} {L : List Cond} (h1 : ∀ w ∈ L.filter vx_no, w.before args s = true)
    (hU : (Cond.isRef (.static Bundle.tN "UNASSIGNED_STACK" Bundle.steD)).before args s = true) (hN : (Cond.isRef (.static Bundle.tN "SUPPRESSED_SENTINEL" Bundle.listD)).before args s = true)
    (lU : (Cond.laysStatic Bundle.tN "UNASSIGNED_STACK" Bundle.steD).before args s = true) (lN : (Cond.laysStatic Bundle.tN "SUPPRESSED_SENTINEL" Bundle.listD).before args s = true) : ∀ w ∈ L, w.before args s = true := by
  intro w hw
  by_cases e1 : w = .isRef (.static Bundle.tN "UNASSIGNED_STACK" Bundle.steD)
  · rw [e1]; exact hU
  · by_cases e2 : w = .isRef (.static Bundle.tN "SUPPRESSED_SENTINEL" Bundle.listD)
    · rw [e2]; exact hN
    · by_cases e3 : w = .laysStatic Bundle.tN "UNASSIGNED_STACK" Bundle.steD
      · rw [e3]; exact lU
      · by_cases e4 : w = .laysStatic Bundle.tN "SUPPRESSED_SENTINEL" Bundle.listD
        · rw [e4]; exact lN
        · exact h1 w (List.mem_filter.mpr ⟨hw, by unfold vx_no; rw [decide_eq_true e1, decide_eq_true e2, decide_eq_true e3, decide_eq_true e4]; rfl⟩)
/-- where a static field lies, its class's statics cell in H -/
def vx_L (C n d : String) (A : Nat → Prop) (U : State) (H : Heap) : Prop := ∃ (c : ClassId) (k : Class) (i : Nat) (f : Field) (a : Nat) (cell : Cell), U.vm.findClass C = some c ∧ U.fieldFound? C n d = some (c, k, i, f) ∧ f.isStatic = true ∧ k.statics = some a ∧ H[a]? = some cell ∧ cell.vm.isStatics = true ∧ cell.cls = c ∧ f.slot < cell.slots.size ∧ k.staticTypes[f.slot]? = some f.type ∧ ¬ A a
theorem vx_L.moved {C n d : String} {A : Nat → Prop} {u U : State} {H : Heap} (hvm : u.vm.Alike U.vm) (h : vx_L C n d A u H) : vx_L C n d A U H := by
  obtain ⟨c, k, i, f, a, cell, h1, h2, h3, h4, h5, h6, h7, h8, h9, h10⟩ := h
  obtain ⟨k', hi', he⟩ := State.fieldFound?_setVm hvm h2
  exact ⟨c, k', i, f, a, cell, by rw [hvm.findClass]; exact h1, hi', h3, by rw [he]; exact h4, h5, h6, h7, h8, by rw [he]; exact h9, h10⟩
theorem vx_L.kept {C n d : String} {A : Nat → Prop} {U : State} {H H1 : Heap} (h : vx_L C n d A U H) (hq : ∀ a : Nat, a < H.size → ¬ A a → H1[a]? = H[a]?) : vx_L C n d A U H1 := by
  obtain ⟨c, k, i, f, a, cell, h1, h2, h3, h4, h5, h6, h7, h8, h9, h10⟩ := h
  exact ⟨c, k, i, f, a, cell, h1, h2, h3, h4, by rw [hq a (Array.getElem?_eq_some_iff.mp h5).1 h10]; exact h5, h6, h7, h8, h9, h10⟩
theorem vx_L.narrow {C n d : String} {A B : Nat → Prop} {U : State} {H : Heap} (h : vx_L C n d A U H) (hAB : ∀ q, B q → A q) : vx_L C n d B U H := by
  obtain ⟨c, k, i, f, a, cell, h1, h2, h3, h4, h5, h6, h7, h8, h9, h10⟩ := h
  exact ⟨c, k, i, f, a, cell, h1, h2, h3, h4, h5, h6, h7, h8, h9, fun z => h10 (hAB _ z)⟩
theorem vx_L.word {C n d : String} {A : Nat → Prop} {s : State} {args : Array Value} (h : vx_L C n d A s s.heap) : (Cond.laysStatic C n d).before args s = true := by
  obtain ⟨c, k, i, f, a, cell, h1, h2, h3, h4, h5, h6, h7, h8, h9, -⟩ := h
  show (Cond.laysStatic C n d).holds args s none s [] = true
  exact Cond.laysStatic_of h1 h2 h3 h4 h5 h6 h7 h8 h9
/-- .. and what it holds: null or some reference -/
def vx_Zq (C n d : String) (A : Nat → Prop) (U : State) (H : Heap) : Prop := va_Zq C n d A U H ∧ vx_L C n d A U H
theorem vx_Zq.moved {C n d : String} {A : Nat → Prop} {u U : State} {H : Heap} (hvm : u.vm.Alike U.vm) (h : vx_Zq C n d A u H) : vx_Zq C n d A U H := ⟨va_Zq.moved hvm h.1, vx_L.moved hvm h.2⟩
theorem vx_Zq.kept {C n d : String} {A : Nat → Prop} {U : State} {H H1 : Heap} (h : vx_Zq C n d A U H) (hq : ∀ a : Nat, a < H.size → ¬ A a → H1[a]? = H[a]?) : vx_Zq C n d A U H1 := ⟨va_Zq.kept h.1 hq, vx_L.kept h.2 hq⟩
theorem vx_Zq.narrow {C n d : String} {A B : Nat → Prop} {U : State} {H : Heap} (h : vx_Zq C n d A U H) (hAB : ∀ q, B q → A q) : vx_Zq C n d B U H := ⟨va_Zq.narrow h.1 hAB, vx_L.narrow h.2 hAB⟩
theorem vx_Zqof {args : Array Value} {s : State} {C n d : String} {A : Nat → Prop} (hl : (Cond.laysStatic C n d).before args s = true) (hini : (Cond.initialized C).before args s = true) (h : (Cond.isRef (.static C n d)).before args s = true) (hA : ∀ a : Nat, a < s.heap.size → ¬ A a) : vx_Zq C n d A s s.heap := by
  refine ⟨va_Zqof hl hini h hA, ?_⟩
  obtain ⟨c, k, i, f, a, cell, h1, h2, h3, h4, h5, h6, h7, h8, h9⟩ := Cond.laysStatic_spec hl
  exact ⟨c, k, i, f, a, cell, h1, h2, h3, h4, h5, h6, h7, h8, h9, hA a (Array.getElem?_eq_some_iff.mp h5).1⟩
theorem vx_isRef {C n d : String} {v : Value} {A : Nat → Prop} {s : State} {args : Array Value} (h : va_Z C n d v A s s.heap) (hv : v.isRef = true) : (Cond.isRef (.static C n d)).before args s = true := by
  obtain ⟨cf, kf, fi, f, a, cell, h1, h2, h3, h4, h5, h6, h7, -⟩ := h
  have he : (Term.static C n d).eval args s none [] s = some v := by
    simp [Term.eval, State.fieldNamed?, h1, h2, h4, h5, h6, h7]
  simp only [Cond.before, Cond.holds, Cond.value, he]
  cases v <;> simp_all [Value.isRef]
theorem vx_isRefq {C n d : String} {A : Nat → Prop} {s : State} {args : Array Value} (h : va_Zq C n d A s s.heap) : (Cond.isRef (.static C n d)).before args s = true := by
  rcases h with h | ⟨t, h⟩
  · exact vx_isRef h rfl
  · exact vx_isRef h rfl
/-- the same frame, seen from here: as if the method were called anew in this heap -/
theorem vx_rebase {T : State} (X : Stand p l e R s m args below meth c T locs cells slots) {R' : Room} (hf : R'.frames ≤ R.frames) (hl : R'.locals ≤ R.locals) (hc : cells + R'.cells ≤ R.cells) (hs : slots + R'.slots ≤ R.slots) :
    Stand p l e R' ((T.setVm s.vm).setFrames (.invoking m args :: below)) m args below meth c T [] 0 0 := by
  have htop : (T.setVm s.vm).topJava?.isSome := X.here.top
  have hF : ((T.setVm s.vm).setFrames (.invoking m args :: below)).frames = .invoking m args :: below := State.frames_setFrames _ (State.cur_lt_of_top htop)
  obtain ⟨g₀, hg0⟩ := Option.isSome_iff_exists.mp htop
  obtain ⟨r, hr⟩ := State.topJava?_eq_some.mp hg0
  have hl9 : e.platform.stackLimits (T.setVm s.vm).me = e.platform.stackLimits s.me := X.limits
  have hb9 : (T.setVm s.vm).me.stackBytes = s.me.stackBytes := X.bytes
  refine ⟨X.admits, X.cas, X.clock, hF, ?_, X.hears, X.method, X.code, X.here, X.tail, X.warmed, ?_, ?_, ?_⟩
  · have h := X.room
    have hU : ((T.setVm s.vm).setFrames (.invoking m args :: below)).localsInUse = s.localsInUse := by
      rw [State.localsInUse_invoking hF (meth := meth) (c := c) X.method X.code, State.localsInUse_invoking X.frames X.method X.code]
    simp only [State.hasRoom, Bool.and_eq_true, decide_eq_true_eq] at h ⊢
    obtain ⟨⟨⟨⟨h1, h2, h3, h4, h5, h6⟩, h7⟩, h8⟩, h9⟩ := h
    rw [X.frames, List.length_cons] at h2 h3
    have q1 := X.heapSize
    have q2 := X.used
    simp only [hF, hU, List.length_cons, State.stackLimits_setFrames, State.stackBytes_setFrames, hl9, hb9]
    refine ⟨⟨⟨⟨by omega, by omega, by omega, by omega, by omega, h6⟩, ?_⟩, ?_⟩, X.book⟩
    · show T.heap.size + R'.cells ≤ e.platform.maxCells
      omega
    · show T.slotsUsed + R'.slots ≤ e.platform.maxSlots
      omega
  · rw [State.stackLimits_setFrames]; rfl
  · rw [State.stackBytes_setFrames]; rfl
  · refine ⟨?_, Nat.le_refl _, Nat.le_refl _, ?_, ?_, fun a c9 h9 => ⟨c9, h9, rfl, rfl, fun _ _ => rfl⟩⟩
    · obtain ⟨t, ht, -⟩ := State.frames_cons hr
      show T.setVm s.vm = { ((T.setVm s.vm).setFrames (.invoking m args :: below)).setFrames (T.setVm s.vm).frames with heap := T.heap, slotsUsed := T.slotsUsed }
      rw [State.setFrames_setFrames, State.setFrames_self ht]
      rfl
    · show T.slotsUsed = T.slotsUsed + ((T.heap.toList.drop T.heap.size).map (·.slots.size)).sum
      rw [List.drop_eq_nil_of_le (Nat.le_of_eq Array.length_toList)]
      rfl
    · show ((T.heap.toList.drop T.heap.size).map (·.slots.size)).sum ≤ 0
      rw [List.drop_eq_nil_of_le (Nat.le_of_eq Array.length_toList)]
      exact Nat.le_refl _
/-- 'throw new E()': new; dup; invokespecial; athrow -/
theorem vx_throw0 {cc : ByteArray} {pc : Nat} (hexec : p.tables.exec = Jvm.exec) (hb : c.code = cc) (hl : l.stackTraces = false) {own cls : String} {names : List String} {ik ic mc ms : Nat} {A : Nat → Prop}
    (hown : s.vm.findClass own = some m.cls) (hcls : Bundle.fit cls = true) (hnames : ∀ n ∈ names, Bundle.fit n = true)
    (hk : (Cond.classLink own ik cls).before args s = true) (hini : (Cond.initialized cls).before args s = true) (hat : ∀ w ∈ vx_at0 own ic cls names, w.before args s = true)
    (hgood : ∀ w ∈ Cond.classLink own ik cls :: Cond.initialized cls :: vx_at0 own ic cls names, vx_ot w = true)
    (hU : vx_Zq Bundle.tN "UNASSIGNED_STACK" Bundle.steD A s s.heap) (hN : vx_Zq Bundle.tN "SUPPRESSED_SENTINEL" Bundle.listD A s s.heap) (hS : va_S A s.heap H locs) (hsize : ls.size = c.maxLocals)
    (d0 : decode cc pc = .ok (.new ik, 3)) (d3 : decode cc (pc + 3) = .ok (.dup, 1)) (d4 : decode cc (pc + 4) = .ok (.invokespecial ic, 3)) (d7 : decode cc (pc + 7) = .ok (.athrow, 1))
    (hout : ∀ x ∈ c.exceptionTable.toList, covers x (pc + 7) = false)
    (hRframes : names.length + 3 < R.frames) (hRlocals : (rest.map fun v => v.category).sum + (13 * (names.length + 1) + 42) ≤ R.locals) (hRcells : cells + 1 ≤ R.cells) (hRslots : slots + 6 ≤ R.slots) (hlocks : meth.locks = false)
    (hx : ∀ t : State, s.vm.Alike t.vm → H.size ≤ t.heap.size → (∀ q : Nat, q < H.size → t.heap[q]? = H[q]?) → XC cls s t)
    (hf : ∀ z ∈ locs, free z.base) (hc : cells + 1 ≤ mc) (hs : slots + 6 ≤ ms) :
    W p l e R s m args below meth c H locs cells slots (vx_MQ below Qc XC args s mc ms free) (F0 m pc ls rest) := by
  intro T hT X
  have htr : e.platform.stackTraces = false := (show e.platform.stackTraces = l.stackTraces by rw [X.admits.platform]).trans hl
  have Y := vx_rebase X (R' := { frames := R.frames, locals := R.locals, cells := 1, slots := 6 }) (Nat.le_refl _) (Nat.le_refl _) hRcells hRslots
  obtain ⟨s', hA⟩ : ∃ z, z = (T.setVm s.vm).setFrames (.invoking m args :: below) := ⟨_, rfl⟩
  rw [← hA] at Y
  have hvm : s'.vm = s.vm := by rw [hA]; rfl
  have hhp : s'.heap = H := by rw [hA]; exact hT
  have hW0 : s.WarmedH s'.vm := by rw [hvm]; exact State.WarmedH.refl s
  have hat' : ∀ w ∈ vx_at0 own ic cls names, w.before args s' = true := fun w hw => vx_ot_at hW0 hvm.symm (hgood w (List.mem_cons_of_mem _ (List.mem_cons_of_mem _ hw))) (hat w hw)
  have hk' : (Cond.classLink own ik cls).before args s' = true := vx_ot_at hW0 hvm.symm (hgood _ List.mem_cons_self) hk
  have hini' : (Cond.initialized cls).before args s' = true := vx_ot_at hW0 hvm.symm (hgood _ (List.mem_cons_of_mem _ List.mem_cons_self)) hini
  have hU' : vx_Zq Bundle.tN "UNASSIGNED_STACK" Bundle.steD A s' s'.heap := by rw [hhp]; exact vx_Zq.moved hW0.alike (hU.kept hS.2.1)
  have hN' : vx_Zq Bundle.tN "SUPPRESSED_SENTINEL" Bundle.listD A s' s'.heap := by rw [hhp]; exact vx_Zq.moved hW0.alike (hN.kept hS.2.1)
  have h : ∀ w ∈ Bundle.ownAtoms0 own ic cls names, w.before args s' = true := vx_own hat' (vx_isRefq hU'.1) (vx_isRefq hN'.1) hU'.2.word hN'.2.word
  have hown' : s'.vm.findClass own = some m.cls := by rw [hvm]; exact hown
  have hins : (Cond.instantiable cls 6).before args s' = true := h _ (by simp [Bundle.ownAtoms0])
  obtain ⟨vm₁, cX, kX, hfX, hkX, -, -, X₁, st1⟩ := Y.newCold hexec (own := own) (C := cls) (index := ik) (n := 6) hown' hk' hins hini'
    (g := F0 m pc ls rest) rfl (by rw [hb]; exact d0) (Nat.le_refl _) (Nat.le_refl _)
  generalize hT1 : (T.setVm vm₁).pushCell { cls := cX, slots := kX.instanceTypes.map defaultValue, vm := .none } = T1 at X₁ st1
  have hcat : (Value.ref T.heap.size).category = 1 := rfl
  have hcellA : T1.heap[T.heap.size]? = some (freshCell cX kX) := by rw [← hT1]; exact State.heap_pushCell_size _ _
  have d3' : decode c.code (pc + 3) = .ok (.dup, 1) := by rw [hb]; exact d3
  obtain ⟨U, hsteps, hrun, hend, hW, hsame, ce, hce, hO⟩ := X₁.ctorThrow0 hexec htr (own := own) (cls := cls) (names := names) (ic := ic) hown' hcls hnames h (fun x hx => nomatch hx) hfX hkX hcellA (by rw [hhp, hT]; exact Nat.le_refl _)
    (g := { method := m, pc := pc + 4, locals := ls, stack := .ref T.heap.size :: .ref T.heap.size :: rest, locked := none }) rfl hsize rfl rfl (rest := rest) rfl
    (by rw [hb]; exact d4) (by rw [hb]; exact d7) hout hRframes (by simp only [List.map_cons, List.sum_cons, hcat]; omega) hlocks
  obtain ⟨f1, f2⟩ := vx_frame hsame
  rw [hhp] at f1 f2
  have hWs : s.WarmedH U.vm := State.WarmedH.trans hW0 hW
  have hcl : s.vm.findClass cls = some ce.cls := by
    have h9 := hO.cls
    rw [hvm] at h9
    exact h9
  have hall : s.sameButNew ({ U with vm := s.vm } : State) locs mc ms := by
    subst hA
    obtain ⟨e1, e2⟩ := hsame
    rw [State.setFrames_setFrames] at e1
    have h2 : (T.setVm s.vm).sameButNew ({ U with vm := s.vm } : State) [] (0 + 1) (0 + 6) := ⟨e1, e2⟩
    have h3 := X.same.trans h2
    rw [List.append_nil] at h3
    exact h3.mono hc hs
  refine ⟨U, ?_, .threw T.heap.size, hrun, hend, Or.inr ⟨T.heap.size, rfl, cls, ce, locs, hx U hWs.alike f1 (fun q hq => f2 q hq (fun z hz => nomatch hz)), hce, hO.vm, hcl, hWs, hall, hf⟩⟩
  refine st1 _ ?_
  show Steps p.tables e below (T1.setTop { method := m, pc := pc + 3, locals := ls, stack := .ref T.heap.size :: rest, locked := none }) _
  jvm_step X₁.here [X₁.here.top, hexec, d3', Value.category]
  exact hsteps
/-- 'throw new E("text")': new; dup; ldc; invokespecial; athrow -/
theorem vx_throwS {cc : ByteArray} {pc : Nat} (hexec : p.tables.exec = Jvm.exec) (hb : c.code = cc) (hl : l.stackTraces = false) {own cls text : String} {names : List String} {ik is ic mc ms sa : Nat} {A : Nat → Prop}
    (hown : s.vm.findClass own = some m.cls) (hcls : Bundle.fit cls = true) (hnames : ∀ n ∈ names, Bundle.fit n = true)
    (hk : (Cond.classLink own ik cls).before args s = true) (hini : (Cond.initialized cls).before args s = true) (hstr : vk_R own is text sa s) (hat : ∀ w ∈ vx_atS own ic cls names, w.before args s = true)
    (hgood : ∀ w ∈ Cond.classLink own ik cls :: Cond.initialized cls :: vx_atS own ic cls names, vx_ot w = true)
    (hU : vx_Zq Bundle.tN "UNASSIGNED_STACK" Bundle.steD A s s.heap) (hN : vx_Zq Bundle.tN "SUPPRESSED_SENTINEL" Bundle.listD A s s.heap) (hS : va_S A s.heap H locs) (hsize : ls.size = c.maxLocals)
    (d0 : decode cc pc = .ok (.new ik, 3)) (d3 : decode cc (pc + 3) = .ok (.dup, 1)) (d4 : decode cc (pc + 4) = .ok (.ldc is, 2)) (d6 : decode cc (pc + 6) = .ok (.invokespecial ic, 3)) (d9 : decode cc (pc + 9) = .ok (.athrow, 1))
    (hout : ∀ x ∈ c.exceptionTable.toList, covers x (pc + 9) = false)
    (hRframes : names.length + 3 < R.frames) (hRlocals : (rest.map fun v => v.category).sum + (13 * (names.length + 1) + 43) ≤ R.locals) (hRcells : cells + 1 ≤ R.cells) (hRslots : slots + 6 ≤ R.slots) (hlocks : meth.locks = false)
    (hx : ∀ t : State, s.vm.Alike t.vm → H.size ≤ t.heap.size → (∀ q : Nat, q < H.size → t.heap[q]? = H[q]?) → XC cls s t)
    (hf : ∀ z ∈ locs, free z.base) (hc : cells + 1 ≤ mc) (hs : slots + 6 ≤ ms) :
    W p l e R s m args below meth c H locs cells slots (vx_MQ below Qc XC args s mc ms free) (F0 m pc ls rest) := by
  intro T hT X
  have htr : e.platform.stackTraces = false := (show e.platform.stackTraces = l.stackTraces by rw [X.admits.platform]).trans hl
  have Y := vx_rebase X (R' := { frames := R.frames, locals := R.locals, cells := 1, slots := 6 }) (Nat.le_refl _) (Nat.le_refl _) hRcells hRslots
  obtain ⟨s', hA⟩ : ∃ z, z = (T.setVm s.vm).setFrames (.invoking m args :: below) := ⟨_, rfl⟩
  rw [← hA] at Y
  have hvm : s'.vm = s.vm := by rw [hA]; rfl
  have hhp : s'.heap = H := by rw [hA]; exact hT
  have hW0 : s.WarmedH s'.vm := by rw [hvm]; exact State.WarmedH.refl s
  have hat' : ∀ w ∈ vx_atS own ic cls names, w.before args s' = true := fun w hw => vx_ot_at hW0 hvm.symm (hgood w (List.mem_cons_of_mem _ (List.mem_cons_of_mem _ hw))) (hat w hw)
  have hk' : (Cond.classLink own ik cls).before args s' = true := vx_ot_at hW0 hvm.symm (hgood _ List.mem_cons_self) hk
  have hini' : (Cond.initialized cls).before args s' = true := vx_ot_at hW0 hvm.symm (hgood _ (List.mem_cons_of_mem _ List.mem_cons_self)) hini
  have hU' : vx_Zq Bundle.tN "UNASSIGNED_STACK" Bundle.steD A s' s'.heap := by rw [hhp]; exact vx_Zq.moved hW0.alike (hU.kept hS.2.1)
  have hN' : vx_Zq Bundle.tN "SUPPRESSED_SENTINEL" Bundle.listD A s' s'.heap := by rw [hhp]; exact vx_Zq.moved hW0.alike (hN.kept hS.2.1)
  have h : ∀ w ∈ Bundle.ownAtoms own ic cls names, w.before args s' = true := vx_own hat' (vx_isRefq hU'.1) (vx_isRefq hN'.1) hU'.2.word hN'.2.word
  have hown' : s'.vm.findClass own = some m.cls := by rw [hvm]; exact hown
  have hins : (Cond.instantiable cls 6).before args s' = true := h _ (by simp [Bundle.ownAtoms])
  obtain ⟨vm₁, cX, kX, hfX, hkX, -, -, X₁, st1⟩ := Y.newCold hexec (own := own) (C := cls) (index := ik) (n := 6) hown' hk' hins hini'
    (g := F0 m pc ls rest) rfl (by rw [hb]; exact d0) (Nat.le_refl _) (Nat.le_refl _)
  generalize hT1 : (T.setVm vm₁).pushCell { cls := cX, slots := kX.instanceTypes.map defaultValue, vm := .none } = T1 at X₁ st1
  have hcat : (Value.ref T.heap.size).category = 1 := rfl
  have hcellA : T1.heap[T.heap.size]? = some (freshCell cX kX) := by rw [← hT1]; exact State.heap_pushCell_size _ _
  have d3' : decode c.code (pc + 3) = .ok (.dup, 1) := by rw [hb]; exact d3
  have d4' : decode c.code (pc + 4) = .ok (.ldc is, 2) := by rw [hb]; exact d4
  have hstr' : vk_R own is text sa s' := vk_R.warm hW0 hstr
  obtain ⟨U, hsteps, hrun, hend, hW, hsame, ce, hce, hO⟩ := X₁.ctorThrowS hexec htr (own := own) (cls := cls) (names := names) (ic := ic) hown' hcls hnames h (fun x hx => nomatch hx) hfX hkX hcellA (by rw [hhp, hT]; exact Nat.le_refl _) (msg := .ref sa) rfl
    (g := { method := m, pc := pc + 6, locals := ls, stack := .ref sa :: .ref T.heap.size :: .ref T.heap.size :: rest, locked := none }) rfl hsize rfl rfl (rest := rest) rfl
    (by rw [hb]; exact d6) (by rw [hb]; exact d9) hout hRframes (by simp only [List.map_cons, List.sum_cons, hcat]; omega) hlocks
  obtain ⟨f1, f2⟩ := vx_frame hsame
  rw [hhp] at f1 f2
  have hWs : s.WarmedH U.vm := State.WarmedH.trans hW0 hW
  have hcl : s.vm.findClass cls = some ce.cls := by
    have h9 := hO.cls
    rw [hvm] at h9
    exact h9
  have hall : s.sameButNew ({ U with vm := s.vm } : State) locs mc ms := by
    subst hA
    obtain ⟨e1, e2⟩ := hsame
    rw [State.setFrames_setFrames] at e1
    have h2 : (T.setVm s.vm).sameButNew ({ U with vm := s.vm } : State) [] (0 + 1) (0 + 6) := ⟨e1, e2⟩
    have h3 := X.same.trans h2
    rw [List.append_nil] at h3
    exact h3.mono hc hs
  refine ⟨U, ?_, .threw T.heap.size, hrun, hend, Or.inr ⟨T.heap.size, rfl, cls, ce, locs, hx U hWs.alike f1 (fun q hq => f2 q hq (fun z hz => nomatch hz)), hce, hO.vm, hcl, hWs, hall, hf⟩⟩
  refine st1 _ ?_
  show Steps p.tables e below (T1.setTop { method := m, pc := pc + 3, locals := ls, stack := .ref T.heap.size :: rest, locked := none }) _
  jvm_step X₁.here [X₁.here.top, hexec, d3', Value.category]
  exact X₁.ldcString hexec (own := own) (text := text) (index := is) (a := sa) hown' hstr'.1 hstr'.2
    (g := { method := m, pc := pc + 4, locals := ls, stack := .ref T.heap.size :: .ref T.heap.size :: rest, locked := none }) rfl d4' _ hsteps
/-- 'throw new E("text")', the text by a wide index -/
theorem vx_throwSW {cc : ByteArray} {pc : Nat} (hexec : p.tables.exec = Jvm.exec) (hb : c.code = cc) (hl : l.stackTraces = false) {own cls text : String} {names : List String} {ik is ic mc ms sa : Nat} {A : Nat → Prop}
    (hown : s.vm.findClass own = some m.cls) (hcls : Bundle.fit cls = true) (hnames : ∀ n ∈ names, Bundle.fit n = true)
    (hk : (Cond.classLink own ik cls).before args s = true) (hini : (Cond.initialized cls).before args s = true) (hstr : vk_R own is text sa s) (hat : ∀ w ∈ vx_atS own ic cls names, w.before args s = true)
    (hgood : ∀ w ∈ Cond.classLink own ik cls :: Cond.initialized cls :: vx_atS own ic cls names, vx_ot w = true)
    (hU : vx_Zq Bundle.tN "UNASSIGNED_STACK" Bundle.steD A s s.heap) (hN : vx_Zq Bundle.tN "SUPPRESSED_SENTINEL" Bundle.listD A s s.heap) (hS : va_S A s.heap H locs) (hsize : ls.size = c.maxLocals)
    (d0 : decode cc pc = .ok (.new ik, 3)) (d3 : decode cc (pc + 3) = .ok (.dup, 1)) (d4 : decode cc (pc + 4) = .ok (.ldc_w is, 3)) (d7 : decode cc (pc + 7) = .ok (.invokespecial ic, 3)) (d10 : decode cc (pc + 10) = .ok (.athrow, 1))
    (hout : ∀ x ∈ c.exceptionTable.toList, covers x (pc + 10) = false)
    (hRframes : names.length + 3 < R.frames) (hRlocals : (rest.map fun v => v.category).sum + (13 * (names.length + 1) + 43) ≤ R.locals) (hRcells : cells + 1 ≤ R.cells) (hRslots : slots + 6 ≤ R.slots) (hlocks : meth.locks = false)
    (hx : ∀ t : State, s.vm.Alike t.vm → H.size ≤ t.heap.size → (∀ q : Nat, q < H.size → t.heap[q]? = H[q]?) → XC cls s t)
    (hf : ∀ z ∈ locs, free z.base) (hc : cells + 1 ≤ mc) (hs : slots + 6 ≤ ms) :
    W p l e R s m args below meth c H locs cells slots (vx_MQ below Qc XC args s mc ms free) (F0 m pc ls rest) := by
  intro T hT X
  have htr : e.platform.stackTraces = false := (show e.platform.stackTraces = l.stackTraces by rw [X.admits.platform]).trans hl
  have Y := vx_rebase X (R' := { frames := R.frames, locals := R.locals, cells := 1, slots := 6 }) (Nat.le_refl _) (Nat.le_refl _) hRcells hRslots
  obtain ⟨s', hA⟩ : ∃ z, z = (T.setVm s.vm).setFrames (.invoking m args :: below) := ⟨_, rfl⟩
  rw [← hA] at Y
  have hvm : s'.vm = s.vm := by rw [hA]; rfl
  have hhp : s'.heap = H := by rw [hA]; exact hT
  have hW0 : s.WarmedH s'.vm := by rw [hvm]; exact State.WarmedH.refl s
  have hat' : ∀ w ∈ vx_atS own ic cls names, w.before args s' = true := fun w hw => vx_ot_at hW0 hvm.symm (hgood w (List.mem_cons_of_mem _ (List.mem_cons_of_mem _ hw))) (hat w hw)
  have hk' : (Cond.classLink own ik cls).before args s' = true := vx_ot_at hW0 hvm.symm (hgood _ List.mem_cons_self) hk
  have hini' : (Cond.initialized cls).before args s' = true := vx_ot_at hW0 hvm.symm (hgood _ (List.mem_cons_of_mem _ List.mem_cons_self)) hini
  have hU' : vx_Zq Bundle.tN "UNASSIGNED_STACK" Bundle.steD A s' s'.heap := by rw [hhp]; exact vx_Zq.moved hW0.alike (hU.kept hS.2.1)
  have hN' : vx_Zq Bundle.tN "SUPPRESSED_SENTINEL" Bundle.listD A s' s'.heap := by rw [hhp]; exact vx_Zq.moved hW0.alike (hN.kept hS.2.1)
  have h : ∀ w ∈ Bundle.ownAtoms own ic cls names, w.before args s' = true := vx_own hat' (vx_isRefq hU'.1) (vx_isRefq hN'.1) hU'.2.word hN'.2.word
  have hown' : s'.vm.findClass own = some m.cls := by rw [hvm]; exact hown
  have hins : (Cond.instantiable cls 6).before args s' = true := h _ (by simp [Bundle.ownAtoms])
  obtain ⟨vm₁, cX, kX, hfX, hkX, -, -, X₁, st1⟩ := Y.newCold hexec (own := own) (C := cls) (index := ik) (n := 6) hown' hk' hins hini'
    (g := F0 m pc ls rest) rfl (by rw [hb]; exact d0) (Nat.le_refl _) (Nat.le_refl _)
  generalize hT1 : (T.setVm vm₁).pushCell { cls := cX, slots := kX.instanceTypes.map defaultValue, vm := .none } = T1 at X₁ st1
  have hcat : (Value.ref T.heap.size).category = 1 := rfl
  have hcellA : T1.heap[T.heap.size]? = some (freshCell cX kX) := by rw [← hT1]; exact State.heap_pushCell_size _ _
  have d3' : decode c.code (pc + 3) = .ok (.dup, 1) := by rw [hb]; exact d3
  have d4' : decode c.code (pc + 4) = .ok (.ldc_w is, 3) := by rw [hb]; exact d4
  have hstr' : vk_R own is text sa s' := vk_R.warm hW0 hstr
  obtain ⟨U, hsteps, hrun, hend, hW, hsame, ce, hce, hO⟩ := X₁.ctorThrowS hexec htr (own := own) (cls := cls) (names := names) (ic := ic) hown' hcls hnames h (fun x hx => nomatch hx) hfX hkX hcellA (by rw [hhp, hT]; exact Nat.le_refl _) (msg := .ref sa) rfl
    (g := { method := m, pc := pc + 7, locals := ls, stack := .ref sa :: .ref T.heap.size :: .ref T.heap.size :: rest, locked := none }) rfl hsize rfl rfl (rest := rest) rfl
    (by rw [hb]; exact d7) (by rw [hb]; exact d10) hout hRframes (by simp only [List.map_cons, List.sum_cons, hcat]; omega) hlocks
  obtain ⟨f1, f2⟩ := vx_frame hsame
  rw [hhp] at f1 f2
  have hWs : s.WarmedH U.vm := State.WarmedH.trans hW0 hW
  have hcl : s.vm.findClass cls = some ce.cls := by
    have h9 := hO.cls
    rw [hvm] at h9
    exact h9
  have hall : s.sameButNew ({ U with vm := s.vm } : State) locs mc ms := by
    subst hA
    obtain ⟨e1, e2⟩ := hsame
    rw [State.setFrames_setFrames] at e1
    have h2 : (T.setVm s.vm).sameButNew ({ U with vm := s.vm } : State) [] (0 + 1) (0 + 6) := ⟨e1, e2⟩
    have h3 := X.same.trans h2
    rw [List.append_nil] at h3
    exact h3.mono hc hs
  refine ⟨U, ?_, .threw T.heap.size, hrun, hend, Or.inr ⟨T.heap.size, rfl, cls, ce, locs, hx U hWs.alike f1 (fun q hq => f2 q hq (fun z hz => nomatch hz)), hce, hO.vm, hcl, hWs, hall, hf⟩⟩
  refine st1 _ ?_
  show Steps p.tables e below (T1.setTop { method := m, pc := pc + 3, locals := ls, stack := .ref T.heap.size :: rest, locked := none }) _
  jvm_step X₁.here [X₁.here.top, hexec, d3', Value.category]
  exact X₁.ldcStringW hexec (own := own) (text := text) (index := is) (a := sa) hown' hstr'.1 hstr'.2
    (g := { method := m, pc := pc + 4, locals := ls, stack := .ref T.heap.size :: .ref T.heap.size :: rest, locked := none }) rfl d4' _ hsteps
end Ends
section Bodies
variable {l : Launch}
theorem vx_ofW {y : MethodName} {ws ws' : List Cond} {rm : Room} {Pc : Array Value → State → Prop} {Qc : Array Value → State → Outcome → State → Prop} {XC : String → State → State → Prop} {mc ms : Nat} {free : Addr → Prop} {cc : ByteArray} {maxL : Nat} {ret : Option FieldType}
    (hy : plainName y.cls = true) (hw : ws = Cond.code y cc maxL ret :: ws')
    (body : ∀ p e s m args below meth c s₁, BodyLoose p l y (headSpec ws rm) cc maxL ret e s m args below meth c s₁ → c.maxLocals = maxL → (∀ x ∈ c.exceptionTable.toList, False) → Pc args s →
      W p l e (headSpec ws rm).room s m args below meth c s.heap [] 0 0 (vx_MQ below Qc XC args s mc ms free) (entryFrame m args maxL)) : vx_Met l y ws rm Pc Qc XC mc ms free := by
  refine MetFree.of_bodyS (code := cc) (maxLocals := maxL) (ret := ret) hy ?_ ?_
  · intro args s m h hn
    obtain ⟨meth, c, h1, h2, h3, h4, h5, h6, -, -⟩ := Cond.code_spec hn (atoms_spec (ws := ws) h _ (by rw [hw]; exact List.mem_cons_self))
    exact ⟨meth, c, h1, h2, h3, h4, h5, h6⟩
  · intro p e s m args below meth c s₁ B hml hP _
    have hh0 : s₁.heap = s.heap := by rw [B.state]; rfl
    have ht : ∀ x ∈ c.exceptionTable.toList, False := by
      obtain ⟨meth9, c9, h1, h2, -, -, -, -, h7, -⟩ := Cond.code_spec B.named (atoms_spec (ws := ws) B.pre _ (by rw [hw]; exact List.mem_cons_self))
      cases Option.some.inj (h1.symm.trans B.method)
      cases Option.some.inj (h2.symm.trans (Stand.of_body B).code)
      intro x hx
      rw [Array.isEmpty_iff.mp h7] at hx
      cases hx
    obtain ⟨t, a1, o, b1, b2, b3⟩ := body p e s m args below meth c s₁ B hml ht hP s₁ hh0 (Stand.of_body B)
    exact ⟨t, o, a1, b1, b2, b3⟩
/-- the table of a body with handlers -/
theorem vx_table {p : Program} {x y : MethodName} {S : Spec} {cc bytes : ByteArray} {maxL maxL' : Nat} {ret ret' : Option FieldType} {e : Env} {s s₁ : State} {m : MethodId} {args : Array Value} {below : List Frame} {meth : Method} {c : Code} {hh : List (Nat × Nat × Nat × Nat)}
    (B : BodyLoose p l y S cc maxL ret e s m args below meth c s₁) (h : (Cond.codeWith y bytes maxL' ret' hh).before args s = true) : c.exceptionTable.toList = tableOf hh := by
  obtain ⟨m9, meth9, c9, hn9, h1, h2, -, -, h6, -⟩ := Cond.codeWith_spec h
  cases Option.some.inj (hn9.symm.trans B.named)
  cases Option.some.inj (h1.symm.trans B.method)
  cases Option.some.inj (h2.symm.trans (Stand.of_body B).code)
  rw [← h6, table_eq]
end Bodies
end VXA
/-! ===== END ===== -/
/-! ===== BEGIN a static call of a method with an exception table ===== -/
section VXS
variable {p : Program} {l : Launch} {e : Env} {R : Room} {s : State} {m : MethodId} {args : Array Value} {below : List Frame} {meth : Method} {c : Code} {T : State} {H : Heap} {locs : List Loc} {cells slots : Nat}
abbrev vx_CSW (R : Room) (s : State) (args : Array Value) (own : String) (index : Nat) (y : MethodName) (bytes : ByteArray) (maxL : Nat) (ret : Option FieldType) (hh : List (Nat × Nat × Nat × Nat)) (ws : List Cond) (rm : Room) (mc ms n : Nat) : Prop :=
  (rm.cells = mc ∧ rm.slots = ms ∧ rm.frames + 1 ≤ R.frames ∧ 8 + (maxL + 11) + rm.locals ≤ R.locals ∧ (∀ w ∈ ws, ∀ (a' : Array Value) (U : State), s.WarmedH U.vm → w.before a' U = true) ∧ Cond.codeWith y bytes maxL ret hh ∈ ws) ∧
  (Cond.codeWith y bytes maxL ret hh).before args s = true ∧ (Cond.initialized y.cls).before args s = true ∧ (y.cls ≠ "java/lang/invoke/MethodHandle" ∧ y.cls ≠ "java/lang/invoke/VarHandle") ∧
  (∀ sig, parseMethodDescriptor y.desc = some sig → n = sig.parameters.length) ∧ (Cond.methodLink own index y).before args s = true ∧ (Cond.static y).before args s = true
theorem vx_cwSW {own : String} {index maxL mc ms : Nat} {y : MethodName} {bytes : ByteArray} {ret : Option FieldType} {hh : List (Nat × Nat × Nat × Nat)} {Ts ws ws' : List Cond} {rm : Room} (n : Nat) (ht : ∀ w ∈ Ts, w.before args s = true) (hT : GoodIn Ts (va_wsS own index y ws)) (hw : ws = Cond.codeWith y bytes maxL ret hh :: ws') (hrc : rm.cells = mc) (hrs : rm.slots = ms)
    (hd : y.cls ≠ "java/lang/invoke/MethodHandle" ∧ y.cls ≠ "java/lang/invoke/VarHandle" ∧ (parseMethodDescriptor y.desc).map (fun d => d.parameters.length) = some n) (hR : rm.frames + 1 ≤ R.frames ∧ 8 + (maxL + 11) + rm.locals ≤ R.locals) :
    vx_CSW R s args own index y bytes maxL ret hh ws rm mc ms n := by
  have ok : ∀ w ∈ va_wsS own index y ws, w.before args s = true := fun w h => ht w (hT w h).1
  have hG : GoodIn Ts ws := fun w h => hT w (by unfold va_wsS; exact List.mem_append_right _ h)
  have hc : Cond.codeWith y bytes maxL ret hh ∈ ws := by rw [hw]; exact List.mem_cons_self
  refine ⟨⟨hrc, hrs, hR.1, hR.2, pay_in ht hG, hc⟩, ht _ (hG _ hc).1, ok _ (by simp [va_wsS]), ⟨hd.1, hd.2.1⟩, fun sig h => ?_, ok _ (by simp [va_wsS]), ok _ (by simp [va_wsS])⟩
  have h2 := hd.2.2
  rw [h] at h2
  exact (Option.some.inj h2).symm
theorem vx_callSW (X : Stand p l e R s m args below meth c T locs cells slots) (hexec : p.tables.exec = Jvm.exec) {own : String} {index : Nat} {y : MethodName} {bytes : ByteArray} {maxL : Nat} {ret : Option FieldType} {hh : List (Nat × Nat × Nat × Nat)}
    (hown : s.vm.findClass own = some m.cls) (hlink : (Cond.methodLink own index y).before args s = true) (hstat : (Cond.static y).before args s = true) (hinit : (Cond.initialized y.cls).before args s = true)
    (hcode : (Cond.codeWith y bytes maxL ret hh).before args s = true) (hy : y.cls ≠ "java/lang/invoke/MethodHandle" ∧ y.cls ≠ "java/lang/invoke/VarHandle")
    {W9 : Nat} {Pre : Pt → Array Value → Prop} {Post : Pt → Array Value → Option Value → Pt → Prop} (hK : Back l R p e below s args y 3 W9 Pre Post)
    {g : JFrame} (hg : g.method = m) (hsize : g.locals.size = c.maxLocals) {argsL rest : List Value} (hlen : ∀ sig, parseMethodDescriptor y.desc = some sig → argsL.length = sig.parameters.length)
    (hstack : g.stack = argsL.reverse ++ rest) (hW : 2 * g.monitorRoom + (rest.map fun v => v.category).sum ≤ W9) (hdg : decode c.code g.pc = .ok (.invokestatic index, 3))
    (hpre : ∀ vm₁, s.WarmedH vm₁ → Pre ⟨T.setVm vm₁, locs, cells, slots⟩ argsL.toArray) :
    ∃ (v : Option Value) (vm₁ : Vm) (B : Pt), s.WarmedH vm₁ ∧ Stand p l e R s m args below meth c B.U B.locs B.cells B.slots ∧ Post ⟨T.setVm vm₁, locs, cells, slots⟩ argsL.toArray v B ∧
      ∀ target, Steps p.tables e below (B.U.setTop { g with pc := g.pc + 3, stack := v.toList ++ rest }) target → Steps p.tables e below (T.setTop g) target := by
  obtain ⟨mk, methM, cM, hnamed, hmethM, -, -, -, -, -, -, hsigM⟩ := Cond.codeWith_spec hcode
  have hstatic : methM.isStatic = true := Cond.static_spec hnamed hmethM hstat
  obtain ⟨kP, hkP, -⟩ := className_of_methodNamed hnamed
  have hinitP : kP.init = .initialized := Cond.initialized_spec (findClass_of_methodNamed hnamed) hkP hinit
  obtain ⟨vm₁, X₁, hstep₁⟩ := X.invokestatic hexec hown hlink hnamed hmethM hstatic hkP hinitP hy (g := g) hg (argsL := argsL) (rest := rest) (hlen _ hsigM) hstack hdg
  obtain ⟨v, B, X', hpost, hsteps⟩ := hK m meth c ⟨T.setVm vm₁, locs, cells, slots⟩ { g with stack := rest } (.invokestatic index) mk argsL.toArray X₁ hg hsize hdg hW (X₁.named hnamed) (hpre vm₁ X₁.warmed)
  exact ⟨v, vm₁, B, X₁.warmed, X', hpost, fun target h => hstep₁ _ fun acts => by rw [doInvoke_state]; exact hsteps.trans h⟩
theorem vx_runSW {y : MethodName} {bytes cc : ByteArray} {maxL nL mc ms n index : Nat} {ret : Option FieldType} {hh : List (Nat × Nat × Nat × Nat)} {ws : List Cond} {rm : Room} {Pc : Array Value → State → Prop} {Qc : Array Value → State → Outcome → State → Prop} {free : Addr → Prop} {Ts : List Cond} {own : String} {As rest : List Value} {g : JFrame}
    (S : CallFix p m c cc nL s args Ts own) (hM : Met l y ws rm Pc Qc mc ms free) (cw : vx_CSW R s args own index y bytes maxL ret hh ws rm mc ms n) (hp : PreS s H Pc As)
    (hg : g.method = m) (hn : As.length = n) (hsize : g.locals.size = nL) (hstack : g.stack = As.reverse ++ rest) (hW : 2 * g.monitorRoom + (rest.map fun v => v.category).sum ≤ 8) (hdg : decode cc g.pc = .ok (.invokestatic index, 3)) (hf : cells + mc ≤ R.cells ∧ slots + ms ≤ R.slots) :
    va_Run p l e R s m args below meth c H locs cells slots mc ms g rest (Qc As.toArray) (free) := by
  obtain ⟨⟨hrc, hrs, hfr, hlo, hws, hcw⟩, hcode, hini, hy, hlen, hl, hstt⟩ := cw
  have hK : Back l R p e below s args y 3 8 (PreOf R mc ms Pc) (PostOf Qc mc ms free) := va_backW (hh := hh) (bytes := bytes) (maxL := maxL) (ret := ret) hM hp.1 hrc hrs hfr hlo hws hcw (fun a' U hW => word_at hW (Or.inl (by first | rfl | simp [Cond.onTables, Cond.keeps, Cond.steady])) hini)
  obtain ⟨hx, hb, hml, ho, -⟩ := S
  intro T hT X
  obtain ⟨v, vm₁, ⟨U', l2, c2, s2⟩, hW₁, X', ⟨g', mk, t, L, e1, e2, hq, h1, hL, h2, h3⟩, st⟩ := vx_callSW X hx (hh := hh) (bytes := bytes) (maxL := maxL) (ret := ret) ho hl hstt hini hcode hy hK hg (hsize.trans hml.symm) (argsL := As) (rest := rest) (fun sig h => hn.trans (hlen sig h)) hstack hW (by rw [hb]; exact hdg)
    (fun vm₁ hW₁ => ⟨hf.1, hf.2, hp.2 (T.setVm vm₁) hT hW₁⟩)
  dsimp only [Pt.U, Pt.locs, Pt.cells, Pt.slots] at X' e1 e2 h1 h2 h3 st
  subst h1; subst h2; subst h3
  exact ⟨v, (T.setVm vm₁).calling g' mk As.toArray, t, U', L, hT, X', hL, e1, e2, hq, st⟩
/-- not caught here, past rows that name other classes: it goes on to the caller -/
theorem vx_outP {p : Program} {l : Launch} {e : Env} {R : Room} {s : State} {m : MethodId} {args : Array Value} {below : List Frame} {meth : Method} {c : Code} {H : Heap} {locs : List Loc} {cells slots : Nat} {free : Addr → Prop} {ls : Array Slot} {rest : List Value} {Qc : Array Value → State → Outcome → State → Prop} {XC : String → State → State → Prop}
    {pc : Nat} {own E : String} {ce : Cell} {q : Addr} {mc ms : Nat} (hown : s.vm.findClass own = some m.cls) (hlocks : meth.locks = false)
    (hpass : ∀ z ∈ c.exceptionTable.toList, covers z pc = false ∨ (z.catchType ≠ 0 ∧ ∃ nm : String, (Cond.classLink own z.catchType nm).before args s = true ∧ va_Nc E nm s)) (hcell : H[q]? = some ce) (hv : ce.vm = .none) (hcl : s.vm.findClass E = some ce.cls)
    (hx : ∀ t : State, t.heap = H → s.vm.Alike t.vm → XC E s t) (hf : ∀ z ∈ locs, free z.base) (hc : cells ≤ mc) (hs : slots ≤ ms) :
    vx_W p l e R s m args below meth c H locs cells slots (vx_MQ below Qc XC args s mc ms free) (F0 m pc ls rest) q := by
  intro T hT X
  have hpl : e.platform.magicAccessors = ({} : Platform).magicAccessors := by rw [X.admits.platform]
  obtain ⟨vm', hW', X', st⟩ := X.outThrough hlocks q (g := F0 m pc ls rest) rfl rfl rfl (cell := ce) (by rw [hT]; exact hcell) (by rw [hv]; rfl)
    (by obtain ⟨k9, h9, -⟩ := Vm.findClass_spec hcl; exact ⟨k9, h9⟩) (fun z hz => by
      rcases hpass z hz with h | ⟨hz0, nm, hl1, hn1⟩
      · exact Or.inl h
      · obtain ⟨c6, hc6, hcl6⟩ := Cond.classLink_spec hown hl1 e.platform hpl
        obtain ⟨a8, b8, h1, h2, h3⟩ := hn1
        cases Option.some.inj (h1.symm.trans hcl)
        cases Option.some.inj (h2.symm.trans hc6)
        exact Or.inr ⟨hz0, _, hcl6, h3⟩)
  obtain ⟨g₀, hfr⟩ := X'.frames_eq
  have hcell9 : ((T.setVm vm').setFrames (.throwing q :: below)).heap[q]? = some ce := by
    show T.heap[q]? = some ce
    rw [hT]; exact hcell
  have hend : Ended ((T.setVm vm').setFrames (.throwing q :: below)) below (.threw q) := State.frames_setFrames _ (State.cur_lt_of_frames hfr)
  refine ⟨(T.setVm vm').setFrames (.throwing q :: below), ?_, .threw q, X'.here.running, hend, Or.inr ⟨q, rfl, E, ce, locs, hx _ hT (X'.ends _).1.alike, hcell9, hv, hcl, (X'.ends _).1, (X'.ends _).2.mono hc hs, hf⟩⟩
  rw [X.pushThrowing_eq]
  exact st
/-- a thing of a world lies in the heap -/
theorem vx_lt {D : va_G} {cl : List vw_C} {ws : va_W} {H1 : Heap} (h : va_P D cl ws H1) {k : Nat} {q : Nat × va_E} (hk : ws[k]? = some q) : q.1 < H1.size := (h k q hk).lt
end VXS
/-! ===== END ===== -/
/-! ===== BEGIN methods with a table of their own: called by a name, returning or throwing ===== -/
section VXH
/-! vx_backW, vx_callVX, vx_callSX, vx_callVW, vx_runVW, vx_runVX, vx_runSX, vx_ofWH follow the same proofs as their sisters above (Free/Laws.lean, Shelf42/LK1.lean); vx_outP calls Shelf42/NT130.lean (outThrough). -/
section
variable {l : Launch} {R : Room} {p : Program} {e : Env} {below : List Frame} {s : State} {sargs : Array Value} {y : MethodName} {len W9 : Nat}
theorem vx_backW {ws : List Cond} {rm : Room} {Pc : Array Value → State → Prop} {Qc : Array Value → State → Outcome → State → Prop} {XC : String → State → State → Prop} {mc ms : Nat} {free : Addr → Prop} {bytes : ByteArray} {maxL : Nat} {ret : Option FieldType} {hh : List (Nat × Nat × Nat × Nat)}
    (hM : vx_Met l y ws rm Pc Qc XC mc ms free) (hblind : FrameBlind Pc) (hrc : rm.cells = mc) (hrs : rm.slots = ms)
    (hframes : rm.frames + 1 ≤ R.frames) (hlocals : W9 + (maxL + 11) + rm.locals ≤ R.locals)
    (hws : ∀ w ∈ ws, ∀ a' U, s.WarmedH U.vm → w.before a' U = true) (hcode : Cond.codeWith y bytes maxL ret hh ∈ ws) (hinit : ∀ a' U, s.WarmedH U.vm → (Cond.initialized y.cls).before a' U = true) :
    vx_Back l R p e below s sargs y len W9 (PreOf R mc ms Pc) (PostOf Qc mc ms free) (vx_Post XC mc ms free) := by
  intro m meth c A g ig mk a X hg hsize hdg hW hn hp
  have h1 : (headSpec ws rm).pre.before a A.U = true := atoms_intro fun w hw => hws w hw _ _ X.warmed
  have h2 : (Cond.codeWith y bytes maxL ret hh).before a A.U = true := hws _ hcode _ _ X.warmed
  have h3 : (Cond.initialized y.cls).before a A.U = true := hinit _ _ X.warmed
  have h4 : A.cells + (headSpec ws rm).room.cells ≤ R.cells := by rw [show (headSpec ws rm).room.cells = mc from hrc]; exact hp.1
  have h5 : A.slots + (headSpec ws rm).room.slots ≤ R.slots := by rw [show (headSpec ws rm).room.slots = ms from hrs]; exact hp.2.1
  have hPc : Pc a (A.U.calling g mk a) := hblind _ _ _ _ hp.2.2
  obtain ⟨U, Ls, c0, s0⟩ := A
  dsimp only [Pt.U, Pt.locs, Pt.cells, Pt.slots] at h1 h2 h3 h4 h5 X hn hPc ⊢
  obtain ⟨m9, methY, cY, hn9, hmY, hcY, -, hlY, -⟩ := Cond.codeWith_spec h2
  cases Option.some.inj (hn9.symm.trans hn)
  obtain ⟨kY, hkY, -⟩ := className_of_methodNamed hn
  have hinitY : kY.init = .initialized := Cond.initialized_spec (findClass_of_methodNamed hn) hkY h3
  have h : At U g.method c below := by rw [hg]; exact X.here
  have hlocals9 : W9 + (maxL + 11) + (headSpec ws rm).room.locals ≤ R.locals := hlocals
  have happ : (headSpec ws rm).appliesLoose y e.platform (U.calling g mk a) = true :=
    Spec.appliesLoose_calling (g := g) h hdg hn hkY hinitY
      (X.room_calling (g := g) (R' := (headSpec ws rm).room) hsize hmY hcY hframes (by rw [hlY]; omega) h4 h5) h1
  obtain ⟨mid, hmid⟩ := h.above
  have hfr : (U.setTop g).frames = (.java g :: mid) ++ below := by rw [State.frames_setTop' g h.top, hmid]; rfl
  obtain ⟨o, s₂, hsteps, -, hend, hq⟩ := Steps.callFree hM p X.admits X.cas X.clock (acts := []) hfr happ hPc trivial
  have hq' : vx_Q Qc XC mc ms free a (U.calling g mk a) o s₂ := hq
  rw [State.frames_setTop' g h.top] at hend
  obtain ⟨g₀, hg0⟩ := Option.isSome_iff_exists.mp h.top
  obtain ⟨r, hr⟩ := State.topJava?_eq_some.mp hg0
  have hr' : (({ U with heap := s₂.heap, slotsUsed := s₂.slotsUsed } : State).setVm s₂.vm).frames = .java g₀ :: r := hr
  rcases hq' with ⟨hqc, L, hfe, hL⟩ | ⟨q, rfl, E, ce, L, hx, hce, hcv, hcl, hW₂, hsm, hL⟩
  · obtain ⟨⟨v, rfl⟩, hW₂, e2, q2, q3, q4, q5, q6⟩ := id hfe
    have e3 : s₂ = ({ (U.calling g mk a).setFrames s₂.frames with heap := s₂.heap, slotsUsed := s₂.slotsUsed } : State).setVm s₂.vm := by
      have : s₂ = ({ s₂ with vm := (U.calling g mk a).vm } : State).setVm s₂.vm := rfl
      rw [e2] at this
      exact this
    obtain ⟨c₂, i₂, len₂, hc₂, hd₂, hf₂⟩ := hend
    have hW' : U.WarmedH s₂.vm := hW₂
    have hcc : c₂ = c := by
      have h1 : s₂.code? g.method = U.code? g.method := by
        rw [State.code?_eq, State.code?_eq, hW'.alike.method?]
      exact Option.some.inj (hc₂.symm.trans (h1.trans h.code))
    subst hcc
    have hlen : len₂ = len := by rw [hdg] at hd₂; cases hd₂; rfl
    subst hlen
    have hs₂ : s₂ = (({ U with heap := s₂.heap, slotsUsed := s₂.slotsUsed } : State).setVm s₂.vm).setTop { g with pc := g.pc + len₂, stack := v.toList ++ g.stack } := by
      refine e3.trans ?_
      rw [hf₂, State.calling_eq h.top, State.setFrames_setFrames, State.setTop_of_frames _ hr', hr]
      rfl
    have hsame : U.sameButNew ({ U with heap := s₂.heap, slotsUsed := s₂.slotsUsed } : State) L mc ms := by
      refine ⟨?_, q2, q3, q4, q5, q6⟩
      obtain ⟨t, ht, -⟩ := State.frames_cons hr
      show ({ U with heap := s₂.heap, slotsUsed := s₂.slotsUsed } : State) = { U.setFrames U.frames with heap := s₂.heap, slotsUsed := s₂.slotsUsed }
      rw [State.setFrames_self ht]
    subst hg
    refine Or.inl ⟨v, ⟨(({ U with heap := s₂.heap, slotsUsed := s₂.slotsUsed } : State).setVm s₂.vm), Ls ++ L, c0 + mc, s0 + ms⟩,
      ⟨X.admits, X.cas, X.clock, X.frames, X.room, X.hears, X.method, X.code, (X.here.setHeapUsed s₂.heap s₂.slotsUsed).setVm hW'.alike, X.tail, State.WarmedH.trans X.warmed hW', X.limits, X.bytes, X.same.trans (hsame.setVm s.vm)⟩,
      ⟨g, mk, s₂, L, rfl, rfl, hqc, rfl, hL, rfl, rfl⟩, ?_⟩
    show Steps p.tables e below _ ((({ U with heap := s₂.heap, slotsUsed := s₂.slotsUsed } : State).setVm s₂.vm).setTop { g with pc := g.pc + len₂, stack := v.toList ++ g.stack })
    rw [← hs₂]
    exact hsteps
  · obtain ⟨e2, q2, q3, q4, q5, q6⟩ := id hsm
    have e3 : s₂ = ({ (U.calling g mk a).setFrames s₂.frames with heap := s₂.heap, slotsUsed := s₂.slotsUsed } : State).setVm s₂.vm := by
      have : s₂ = ({ s₂ with vm := (U.calling g mk a).vm } : State).setVm s₂.vm := rfl
      rw [e2] at this
      exact this
    have hf₂ : s₂.frames = .throwing q :: .java g :: U.frames.tail := hend
    have hW' : U.WarmedH s₂.vm := hW₂
    have hs₂ : s₂ = ((({ U with heap := s₂.heap, slotsUsed := s₂.slotsUsed } : State).setVm s₂.vm).setTop g).pushFrame (.throwing q) := by
      refine e3.trans ?_
      rw [hf₂, State.calling_eq h.top, State.setFrames_setFrames, State.pushFrame, State.frames_setTop _ hr', State.setTop_of_frames _ hr', State.setFrames_setFrames, hr]
      rfl
    have hsame : U.sameButNew ({ U with heap := s₂.heap, slotsUsed := s₂.slotsUsed } : State) L mc ms := by
      refine ⟨?_, q2, q3, q4, q5, q6⟩
      obtain ⟨t, ht, -⟩ := State.frames_cons hr
      show ({ U with heap := s₂.heap, slotsUsed := s₂.slotsUsed } : State) = { U.setFrames U.frames with heap := s₂.heap, slotsUsed := s₂.slotsUsed }
      rw [State.setFrames_self ht]
    subst hg
    refine Or.inr ⟨q, ⟨(({ U with heap := s₂.heap, slotsUsed := s₂.slotsUsed } : State).setVm s₂.vm), Ls ++ L, c0 + mc, s0 + ms⟩,
      ⟨X.admits, X.cas, X.clock, X.frames, X.room, X.hears, X.method, X.code, (X.here.setHeapUsed s₂.heap s₂.slotsUsed).setVm hW'.alike, X.tail, State.WarmedH.trans X.warmed hW', X.limits, X.bytes, X.same.trans (hsame.setVm s.vm)⟩,
      ⟨g, mk, s₂, L, E, ce, rfl, rfl, hx, hce, hcv, hcl, rfl, hL, rfl, rfl⟩, ?_⟩
    show Steps p.tables e below _ (((({ U with heap := s₂.heap, slotsUsed := s₂.slotsUsed } : State).setVm s₂.vm).setTop g).pushFrame (.throwing q))
    rw [← hs₂]
    exact hsteps
end
variable {p : Program} {l : Launch} {e : Env} {R : Room} {s : State} {m : MethodId} {args : Array Value} {below : List Frame} {meth : Method} {c : Code} {T : State} {H : Heap} {locs : List Loc} {cells slots : Nat}
theorem vx_callVX (X : Stand p l e R s m args below meth c T locs cells slots) (hexec : p.tables.exec = Jvm.exec) {own C : String} {index : Nat} {y : MethodName} {bytes : ByteArray} {maxL : Nat} {ret : Option FieldType} {hh : List (Nat × Nat × Nat × Nat)}
    (hown : s.vm.findClass own = some m.cls) (hlink : (Cond.methodLink own index y).before args s = true) (hinst : (Cond.instanceMethod y).before args s = true) (hsel : (Cond.selects C y y).before args s = true)
    (hcode : (Cond.codeWith y bytes maxL ret hh).before args s = true) (hy : y.cls ≠ "java/lang/invoke/MethodHandle" ∧ y.cls ≠ "java/lang/invoke/VarHandle")
    {W9 : Nat} {Pre : Pt → Array Value → Prop} {Post : Pt → Array Value → Option Value → Pt → Prop} {PostX : Pt → Array Value → Addr → Pt → Prop} (hK : vx_Back l R p e below s args y 3 W9 Pre Post PostX)
    {b : Addr} {cellB : Cell} (hcell : T.heap[b]? = some cellB) (hobj : cellB.vm.isStatics = false) (hcls : s.vm.findClass C = some cellB.cls)
    {g : JFrame} (hg : g.method = m) (hsize : g.locals.size = c.maxLocals) {argsL rest : List Value} (hlen : ∀ sig, parseMethodDescriptor y.desc = some sig → argsL.length = sig.parameters.length)
    (hstack : g.stack = argsL.reverse ++ .ref b :: rest) (hW : 2 * g.monitorRoom + (rest.map fun v => v.category).sum ≤ W9) (hdg : decode c.code g.pc = .ok (.invokevirtual index, 3))
    (hpre : ∀ vm₁, s.WarmedH vm₁ → Pre ⟨T.setVm vm₁, locs, cells, slots⟩ (Value.ref b :: argsL).toArray) :
    (∃ (v : Option Value) (vm₁ : Vm) (B : Pt), s.WarmedH vm₁ ∧ Stand p l e R s m args below meth c B.U B.locs B.cells B.slots ∧ Post ⟨T.setVm vm₁, locs, cells, slots⟩ (Value.ref b :: argsL).toArray v B ∧
      ∀ target, Steps p.tables e below (B.U.setTop { g with pc := g.pc + 3, stack := v.toList ++ rest }) target → Steps p.tables e below (T.setTop g) target) ∨
    (∃ (q : Addr) (vm₁ : Vm) (B : Pt), s.WarmedH vm₁ ∧ Stand p l e R s m args below meth c B.U B.locs B.cells B.slots ∧ PostX ⟨T.setVm vm₁, locs, cells, slots⟩ (Value.ref b :: argsL).toArray q B ∧
      Steps p.tables e below (T.setTop g) ((B.U.setTop { g with stack := rest }).pushFrame (.throwing q))) := by
  obtain ⟨mk, methM, hnamed, hmethM, hstM, habM⟩ := Cond.instanceMethod_spec hinst
  obtain ⟨m8, methM', cM, hn8, hmethM', -, -, -, -, -, -, hsigM⟩ := Cond.codeWith_spec hcode
  cases Option.some.inj (hn8.symm.trans hnamed)
  cases hmethM.symm.trans hmethM'
  obtain ⟨c2, r2, m2, q1, q2, q3, q4, kP, hkP, hkPi⟩ := Cond.selects_spec hsel
  cases hcls.symm.trans q1
  cases (State.methodFound?_of_named hnamed hy).symm.trans q2
  cases hnamed.symm.trans q3
  have hselP : selectMethod e.platform s.vm cellB.cls mk = .method mk := by rw [Launch.admits_selectMethod X.admits]; exact q4
  obtain ⟨vm₁, X₁, hstep₁⟩ := X.invokevirtual hexec hown hlink hnamed hmethM hstM hkP hkPi hy (a := b) (cell := cellB) hcell
    (fun z h => by rw [h] at hobj; cases hobj) hselP hmethM habM hkP hkPi (g := g) hg (argsL := argsL) (rest := rest) (hlen _ hsigM) hstack hdg
  rcases hK m meth c ⟨T.setVm vm₁, locs, cells, slots⟩ { g with stack := rest } (.invokevirtual index) mk (Value.ref b :: argsL).toArray X₁ hg hsize hdg hW (X₁.named hnamed) (hpre vm₁ X₁.warmed) with ⟨v, B, X', hpost, hsteps⟩ | ⟨q, B, X', hpost, hsteps⟩
  · exact Or.inl ⟨v, vm₁, B, X₁.warmed, X', hpost, fun target h => hstep₁ _ fun acts => by rw [doInvoke_state]; exact hsteps.trans h⟩
  · exact Or.inr ⟨q, vm₁, B, X₁.warmed, X', hpost, hstep₁ _ fun acts => by rw [doInvoke_state]; exact hsteps⟩
theorem vx_callSX (X : Stand p l e R s m args below meth c T locs cells slots) (hexec : p.tables.exec = Jvm.exec) {own : String} {index : Nat} {y : MethodName} {bytes : ByteArray} {maxL : Nat} {ret : Option FieldType} {hh : List (Nat × Nat × Nat × Nat)}
    (hown : s.vm.findClass own = some m.cls) (hlink : (Cond.methodLink own index y).before args s = true) (hstat : (Cond.static y).before args s = true) (hinit : (Cond.initialized y.cls).before args s = true)
    (hcode : (Cond.codeWith y bytes maxL ret hh).before args s = true) (hy : y.cls ≠ "java/lang/invoke/MethodHandle" ∧ y.cls ≠ "java/lang/invoke/VarHandle")
    {W9 : Nat} {Pre : Pt → Array Value → Prop} {Post : Pt → Array Value → Option Value → Pt → Prop} {PostX : Pt → Array Value → Addr → Pt → Prop} (hK : vx_Back l R p e below s args y 3 W9 Pre Post PostX)
    {g : JFrame} (hg : g.method = m) (hsize : g.locals.size = c.maxLocals) {argsL rest : List Value} (hlen : ∀ sig, parseMethodDescriptor y.desc = some sig → argsL.length = sig.parameters.length)
    (hstack : g.stack = argsL.reverse ++ rest) (hW : 2 * g.monitorRoom + (rest.map fun v => v.category).sum ≤ W9) (hdg : decode c.code g.pc = .ok (.invokestatic index, 3))
    (hpre : ∀ vm₁, s.WarmedH vm₁ → Pre ⟨T.setVm vm₁, locs, cells, slots⟩ argsL.toArray) :
    (∃ (v : Option Value) (vm₁ : Vm) (B : Pt), s.WarmedH vm₁ ∧ Stand p l e R s m args below meth c B.U B.locs B.cells B.slots ∧ Post ⟨T.setVm vm₁, locs, cells, slots⟩ argsL.toArray v B ∧
      ∀ target, Steps p.tables e below (B.U.setTop { g with pc := g.pc + 3, stack := v.toList ++ rest }) target → Steps p.tables e below (T.setTop g) target) ∨
    (∃ (q : Addr) (vm₁ : Vm) (B : Pt), s.WarmedH vm₁ ∧ Stand p l e R s m args below meth c B.U B.locs B.cells B.slots ∧ PostX ⟨T.setVm vm₁, locs, cells, slots⟩ argsL.toArray q B ∧
      Steps p.tables e below (T.setTop g) ((B.U.setTop { g with stack := rest }).pushFrame (.throwing q))) := by
  obtain ⟨mk, methM, cM, hnamed, hmethM, -, -, -, -, -, -, hsigM⟩ := Cond.codeWith_spec hcode
  have hstatic : methM.isStatic = true := Cond.static_spec hnamed hmethM hstat
  obtain ⟨kP, hkP, -⟩ := className_of_methodNamed hnamed
  have hinitP : kP.init = .initialized := Cond.initialized_spec (findClass_of_methodNamed hnamed) hkP hinit
  obtain ⟨vm₁, X₁, hstep₁⟩ := X.invokestatic hexec hown hlink hnamed hmethM hstatic hkP hinitP hy (g := g) hg (argsL := argsL) (rest := rest) (hlen _ hsigM) hstack hdg
  rcases hK m meth c ⟨T.setVm vm₁, locs, cells, slots⟩ { g with stack := rest } (.invokestatic index) mk argsL.toArray X₁ hg hsize hdg hW (X₁.named hnamed) (hpre vm₁ X₁.warmed) with ⟨v, B, X', hpost, hsteps⟩ | ⟨q, B, X', hpost, hsteps⟩
  · exact Or.inl ⟨v, vm₁, B, X₁.warmed, X', hpost, fun target h => hstep₁ _ fun acts => by rw [doInvoke_state]; exact hsteps.trans h⟩
  · exact Or.inr ⟨q, vm₁, B, X₁.warmed, X', hpost, hstep₁ _ fun acts => by rw [doInvoke_state]; exact hsteps⟩
theorem vx_callVW (X : Stand p l e R s m args below meth c T locs cells slots) (hexec : p.tables.exec = Jvm.exec) {own C : String} {index : Nat} {y : MethodName} {bytes : ByteArray} {maxL : Nat} {ret : Option FieldType} {hh : List (Nat × Nat × Nat × Nat)}
    (hown : s.vm.findClass own = some m.cls) (hlink : (Cond.methodLink own index y).before args s = true) (hinst : (Cond.instanceMethod y).before args s = true) (hsel : (Cond.selects C y y).before args s = true)
    (hcode : (Cond.codeWith y bytes maxL ret hh).before args s = true) (hy : y.cls ≠ "java/lang/invoke/MethodHandle" ∧ y.cls ≠ "java/lang/invoke/VarHandle")
    {W9 : Nat} {Pre : Pt → Array Value → Prop} {Post : Pt → Array Value → Option Value → Pt → Prop} (hK : Back l R p e below s args y 3 W9 Pre Post)
    {b : Addr} {cellB : Cell} (hcell : T.heap[b]? = some cellB) (hobj : cellB.vm.isStatics = false) (hcls : s.vm.findClass C = some cellB.cls)
    {g : JFrame} (hg : g.method = m) (hsize : g.locals.size = c.maxLocals) {argsL rest : List Value} (hlen : ∀ sig, parseMethodDescriptor y.desc = some sig → argsL.length = sig.parameters.length)
    (hstack : g.stack = argsL.reverse ++ .ref b :: rest) (hW : 2 * g.monitorRoom + (rest.map fun v => v.category).sum ≤ W9) (hdg : decode c.code g.pc = .ok (.invokevirtual index, 3))
    (hpre : ∀ vm₁, s.WarmedH vm₁ → Pre ⟨T.setVm vm₁, locs, cells, slots⟩ (Value.ref b :: argsL).toArray) :
    ∃ (v : Option Value) (vm₁ : Vm) (B : Pt), s.WarmedH vm₁ ∧ Stand p l e R s m args below meth c B.U B.locs B.cells B.slots ∧ Post ⟨T.setVm vm₁, locs, cells, slots⟩ (Value.ref b :: argsL).toArray v B ∧
      ∀ target, Steps p.tables e below (B.U.setTop { g with pc := g.pc + 3, stack := v.toList ++ rest }) target → Steps p.tables e below (T.setTop g) target := by
  obtain ⟨mk, methM, hnamed, hmethM, hstM, habM⟩ := Cond.instanceMethod_spec hinst
  obtain ⟨m8, methM', cM, hn8, hmethM', -, -, -, -, -, -, hsigM⟩ := Cond.codeWith_spec hcode
  cases Option.some.inj (hn8.symm.trans hnamed)
  cases hmethM.symm.trans hmethM'
  obtain ⟨c2, r2, m2, q1, q2, q3, q4, kP, hkP, hkPi⟩ := Cond.selects_spec hsel
  cases hcls.symm.trans q1
  cases (State.methodFound?_of_named hnamed hy).symm.trans q2
  cases hnamed.symm.trans q3
  have hselP : selectMethod e.platform s.vm cellB.cls mk = .method mk := by rw [Launch.admits_selectMethod X.admits]; exact q4
  obtain ⟨vm₁, X₁, hstep₁⟩ := X.invokevirtual hexec hown hlink hnamed hmethM hstM hkP hkPi hy (a := b) (cell := cellB) hcell
    (fun z h => by rw [h] at hobj; cases hobj) hselP hmethM habM hkP hkPi (g := g) hg (argsL := argsL) (rest := rest) (hlen _ hsigM) hstack hdg
  obtain ⟨v, B, X', hpost, hsteps⟩ := hK m meth c ⟨T.setVm vm₁, locs, cells, slots⟩ { g with stack := rest } (.invokevirtual index) mk (Value.ref b :: argsL).toArray X₁ hg hsize hdg hW (X₁.named hnamed) (hpre vm₁ X₁.warmed)
  exact ⟨v, vm₁, B, X₁.warmed, X', hpost, fun target h => hstep₁ _ fun acts => by rw [doInvoke_state]; exact hsteps.trans h⟩
abbrev vx_CVW (R : Room) (s : State) (args : Array Value) (own C : String) (index : Nat) (y : MethodName) (bytes : ByteArray) (maxL : Nat) (ret : Option FieldType) (hh : List (Nat × Nat × Nat × Nat)) (ws : List Cond) (rm : Room) (mc ms n : Nat) : Prop :=
  (rm.cells = mc ∧ rm.slots = ms ∧ rm.frames + 1 ≤ R.frames ∧ 8 + (maxL + 11) + rm.locals ≤ R.locals ∧ (∀ w ∈ ws, ∀ (a' : Array Value) (U : State), s.WarmedH U.vm → w.before a' U = true) ∧ Cond.codeWith y bytes maxL ret hh ∈ ws) ∧
  (Cond.codeWith y bytes maxL ret hh).before args s = true ∧ (Cond.initialized y.cls).before args s = true ∧ (y.cls ≠ "java/lang/invoke/MethodHandle" ∧ y.cls ≠ "java/lang/invoke/VarHandle") ∧
  (∀ sig, parseMethodDescriptor y.desc = some sig → n = sig.parameters.length) ∧ (Cond.methodLink own index y).before args s = true ∧ (Cond.instanceMethod y).before args s = true ∧ (Cond.selects C y y).before args s = true
theorem vx_cwVW {own C : String} {index maxL mc ms : Nat} {y : MethodName} {bytes : ByteArray} {ret : Option FieldType} {hh : List (Nat × Nat × Nat × Nat)} {Ts ws ws' : List Cond} {rm : Room} (n : Nat) (ht : ∀ w ∈ Ts, w.before args s = true) (hT : GoodIn Ts (wsV own index C y ws)) (hw : ws = Cond.codeWith y bytes maxL ret hh :: ws') (hrc : rm.cells = mc) (hrs : rm.slots = ms)
    (hd : y.cls = C ∧ y.cls ≠ "java/lang/invoke/MethodHandle" ∧ y.cls ≠ "java/lang/invoke/VarHandle" ∧ (parseMethodDescriptor y.desc).map (fun d => d.parameters.length) = some n) (hR : rm.frames + 1 ≤ R.frames ∧ 8 + (maxL + 11) + rm.locals ≤ R.locals) :
    vx_CVW R s args own C index y bytes maxL ret hh ws rm mc ms n := by
  obtain ⟨hC, hd⟩ := hd
  subst hC
  have ok : ∀ w ∈ wsV own index y.cls y ws, w.before args s = true := fun w h => ht w (hT w h).1
  have hG : GoodIn Ts ws := fun w h => hT w (by unfold wsV; exact List.mem_append_right _ h)
  have hc : Cond.codeWith y bytes maxL ret hh ∈ ws := by rw [hw]; exact List.mem_cons_self
  refine ⟨⟨hrc, hrs, hR.1, hR.2, pay_in ht hG, hc⟩, ht _ (hG _ hc).1, ok _ (by simp [wsV]), ⟨hd.1, hd.2.1⟩, fun sig h => ?_, ok _ (by simp [wsV]), ok _ (by simp [wsV]), ok _ (by simp [wsV])⟩
  have h2 := hd.2.2
  rw [h] at h2
  exact (Option.some.inj h2).symm
theorem vx_runVW {y : MethodName} {bytes cc : ByteArray} {maxL nL mc ms n index : Nat} {ret : Option FieldType} {hh : List (Nat × Nat × Nat × Nat)} {ws : List Cond} {rm : Room} {Pc : Array Value → State → Prop} {Qc : Array Value → State → Outcome → State → Prop} {free : Addr → Prop} {Ts : List Cond} {own C : String} {b : Addr} {As rest : List Value} {g : JFrame}
    (S : CallFix p m c cc nL s args Ts own) (hM : Met l y ws rm Pc Qc mc ms free) (cw : vx_CVW R s args own C index y bytes maxL ret hh ws rm mc ms n) (hp : PreV s H C b Pc As)
    (hg : g.method = m) (hn : As.length = n) (hsize : g.locals.size = nL) (hstack : g.stack = As.reverse ++ .ref b :: rest) (hW : 2 * g.monitorRoom + (rest.map fun v => v.category).sum ≤ 8) (hdg : decode cc g.pc = .ok (.invokevirtual index, 3)) (hf : cells + mc ≤ R.cells ∧ slots + ms ≤ R.slots) :
    va_Run p l e R s m args below meth c H locs cells slots mc ms g rest (Qc (Value.ref b :: As).toArray) free := by
  obtain ⟨⟨hrc, hrs, hfr, hlo, hws, hcw⟩, hcode, hini, hy, hlen, hl, hin, hse⟩ := cw
  have hK : Back l R p e below s args y 3 8 (PreOf R mc ms Pc) (PostOf Qc mc ms free) := va_backW (hh := hh) (bytes := bytes) (maxL := maxL) (ret := ret) hM hp.1 hrc hrs hfr hlo hws hcw (fun a' U hW => word_at hW (Or.inl (by first | rfl | simp [Cond.onTables, Cond.keeps, Cond.steady])) hini)
  obtain ⟨hx, hb, hml, ho, -⟩ := S
  obtain ⟨-, ⟨cellB, hcB, hoB, hclB⟩, hPc⟩ := hp
  intro T hT X
  obtain ⟨v, vm₁, ⟨U', l2, c2, s2⟩, hW₁, X', ⟨g', mk, t, L, e1, e2, hq, h1, hL, h2, h3⟩, st⟩ := vx_callVW X hx (C := C) (hh := hh) (bytes := bytes) (maxL := maxL) (ret := ret) ho hl hin hse hcode hy hK (by rw [hT]; exact hcB) hoB hclB hg (hsize.trans hml.symm) (argsL := As) (rest := rest) (fun sig h => hn.trans (hlen sig h)) hstack hW (by rw [hb]; exact hdg)
    (fun vm₁ hW₁ => ⟨hf.1, hf.2, hPc (T.setVm vm₁) hT hW₁⟩)
  dsimp only [Pt.U, Pt.locs, Pt.cells, Pt.slots] at X' e1 e2 h1 h2 h3 st
  subst h1; subst h2; subst h3
  exact ⟨v, (T.setVm vm₁).calling g' mk (Value.ref b :: As).toArray, t, U', L, hT, X', hL, e1, e2, hq, st⟩
section
variable {y : MethodName} {bytes cc : ByteArray} {maxL nL mc ms n index : Nat} {ret : Option FieldType} {ws : List Cond} {rm : Room} {Pc : Array Value → State → Prop} {Qc : Array Value → State → Outcome → State → Prop} {XC : String → State → State → Prop} {free : Addr → Prop} {Ts : List Cond} {own C : String} {b : Addr} {As rest : List Value} {g : JFrame}
theorem vx_runVX {hh : List (Nat × Nat × Nat × Nat)} (S : CallFix p m c cc nL s args Ts own) (hM : vx_Met l y ws rm Pc Qc XC mc ms free) (cw : vx_CVW R s args own C index y bytes maxL ret hh ws rm mc ms n) (hp : PreV s H C b Pc As)
    (hg : g.method = m) (hn : As.length = n) (hsize : g.locals.size = nL) (hstack : g.stack = As.reverse ++ .ref b :: rest) (hW : 2 * g.monitorRoom + (rest.map fun v => v.category).sum ≤ 8) (hdg : decode cc g.pc = .ok (.invokevirtual index, 3)) (hf : cells + mc ≤ R.cells ∧ slots + ms ≤ R.slots) :
    vx_Run p l e R s m args below meth c H locs cells slots mc ms g rest (Qc (Value.ref b :: As).toArray) XC free := by
  obtain ⟨⟨hrc, hrs, hfr, hlo, hws, hcw⟩, hcode, hini, hy, hlen, hl, hin, hse⟩ := cw
  have hK : vx_Back l R p e below s args y 3 8 (PreOf R mc ms Pc) (PostOf Qc mc ms free) (vx_Post XC mc ms free) := vx_backW (hh := hh) (bytes := bytes) (maxL := maxL) (ret := ret) hM hp.1 hrc hrs hfr hlo hws hcw (fun a' U hW => word_at hW (Or.inl (by first | rfl | simp [Cond.onTables, Cond.keeps, Cond.steady])) hini)
  obtain ⟨hx, hb, hml, ho, -⟩ := S
  obtain ⟨-, ⟨cellB, hcB, hoB, hclB⟩, hPc⟩ := hp
  intro T hT X
  rcases vx_callVX X hx (C := C) (hh := hh) (bytes := bytes) (maxL := maxL) (ret := ret) ho hl hin hse hcode hy hK (by rw [hT]; exact hcB) hoB hclB hg (hsize.trans hml.symm) (argsL := As) (rest := rest) (fun sig h => hn.trans (hlen sig h)) hstack hW (by rw [hb]; exact hdg)
    (fun vm₁ hW₁ => ⟨hf.1, hf.2, hPc (T.setVm vm₁) hT hW₁⟩) with ⟨v, vm₁, ⟨U', l2, c2, s2⟩, hW₁, X', ⟨g', mk, t, L, e1, e2, hq, h1, hL, h2, h3⟩, st⟩ | ⟨q, vm₁, ⟨U', l2, c2, s2⟩, hW₁, X', ⟨g', mk, t, L, E, ce, e1, e2, hq, hce, hcv, hcl, h1, hL, h2, h3⟩, st⟩
  · dsimp only [Pt.U, Pt.locs, Pt.cells, Pt.slots] at X' e1 e2 h1 h2 h3 st
    subst h1; subst h2; subst h3
    exact Or.inl ⟨v, (T.setVm vm₁).calling g' mk (Value.ref b :: As).toArray, t, U', L, hT, X', hL, e1, e2, hq, st⟩
  · dsimp only [Pt.U, Pt.locs, Pt.cells, Pt.slots] at X' e1 e2 h1 h2 h3 st hcl
    subst h1; subst h2; subst h3
    exact Or.inr ⟨q, (T.setVm vm₁).calling g' mk (Value.ref b :: As).toArray, t, U', L, E, ce, hT, X', hL, e1, e2, hq, hce, hcv, vx_cls hW₁ hcl, st⟩
theorem vx_runSX {hh : List (Nat × Nat × Nat × Nat)} (S : CallFix p m c cc nL s args Ts own) (hM : vx_Met l y ws rm Pc Qc XC mc ms free) (cw : vx_CSW R s args own index y bytes maxL ret hh ws rm mc ms n) (hp : PreS s H Pc As)
    (hg : g.method = m) (hn : As.length = n) (hsize : g.locals.size = nL) (hstack : g.stack = As.reverse ++ rest) (hW : 2 * g.monitorRoom + (rest.map fun v => v.category).sum ≤ 8) (hdg : decode cc g.pc = .ok (.invokestatic index, 3)) (hf : cells + mc ≤ R.cells ∧ slots + ms ≤ R.slots) :
    vx_Run p l e R s m args below meth c H locs cells slots mc ms g rest (Qc As.toArray) XC free := by
  obtain ⟨⟨hrc, hrs, hfr, hlo, hws, hcw⟩, hcode, hini, hy, hlen, hl, hstt⟩ := cw
  have hK : vx_Back l R p e below s args y 3 8 (PreOf R mc ms Pc) (PostOf Qc mc ms free) (vx_Post XC mc ms free) := vx_backW (hh := hh) (bytes := bytes) (maxL := maxL) (ret := ret) hM hp.1 hrc hrs hfr hlo hws hcw (fun a' U hW => word_at hW (Or.inl (by first | rfl | simp [Cond.onTables, Cond.keeps, Cond.steady])) hini)
  obtain ⟨hx, hb, hml, ho, -⟩ := S
  intro T hT X
  rcases vx_callSX X hx (hh := hh) (bytes := bytes) (maxL := maxL) (ret := ret) ho hl hstt hini hcode hy hK hg (hsize.trans hml.symm) (argsL := As) (rest := rest) (fun sig h => hn.trans (hlen sig h)) hstack hW (by rw [hb]; exact hdg)
    (fun vm₁ hW₁ => ⟨hf.1, hf.2, hp.2 (T.setVm vm₁) hT hW₁⟩) with ⟨v, vm₁, ⟨U', l2, c2, s2⟩, hW₁, X', ⟨g', mk, t, L, e1, e2, hq, h1, hL, h2, h3⟩, st⟩ | ⟨q, vm₁, ⟨U', l2, c2, s2⟩, hW₁, X', ⟨g', mk, t, L, E, ce, e1, e2, hq, hce, hcv, hcl, h1, hL, h2, h3⟩, st⟩
  · dsimp only [Pt.U, Pt.locs, Pt.cells, Pt.slots] at X' e1 e2 h1 h2 h3 st
    subst h1; subst h2; subst h3
    exact Or.inl ⟨v, (T.setVm vm₁).calling g' mk As.toArray, t, U', L, hT, X', hL, e1, e2, hq, st⟩
  · dsimp only [Pt.U, Pt.locs, Pt.cells, Pt.slots] at X' e1 e2 h1 h2 h3 st hcl
    subst h1; subst h2; subst h3
    exact Or.inr ⟨q, (T.setVm vm₁).calling g' mk As.toArray, t, U', L, E, ce, hT, X', hL, e1, e2, hq, hce, hcv, vx_cls hW₁ hcl, st⟩
end
end VXH
theorem vx_ofWH {l : Launch} {y : MethodName} {ws ws' : List Cond} {rm : Room} {Pc : Array Value → State → Prop} {Qc : Array Value → State → Outcome → State → Prop} {XC : String → State → State → Prop} {mc ms : Nat} {free : Addr → Prop} {cc : ByteArray} {maxL : Nat} {ret : Option FieldType} {hh : List (Nat × Nat × Nat × Nat)}
    (hy : plainName y.cls = true) (hw : ws = Cond.codeWith y cc maxL ret hh :: ws')
    (body : ∀ p e s m args below meth c s₁, BodyLoose p l y (headSpec ws rm) cc maxL ret e s m args below meth c s₁ → c.maxLocals = maxL → Pc args s →
      W p l e (headSpec ws rm).room s m args below meth c s.heap [] 0 0 (vx_MQ below Qc XC args s mc ms free) (entryFrame m args maxL)) : vx_Met l y ws rm Pc Qc XC mc ms free := by
  refine MetFree.of_bodyS (code := cc) (maxLocals := maxL) (ret := ret) hy ?_ ?_
  · intro args s m h hn
    obtain ⟨m9, meth, c, hn9, h1, h2, h3, h4, -, h5, h6, -⟩ := Cond.codeWith_spec (atoms_spec (ws := ws) h _ (by rw [hw]; exact List.mem_cons_self))
    cases hn.symm.trans hn9
    exact ⟨meth, c, h1, h2, h3, h4, h5, h6⟩
  · intro p e s m args below meth c s₁ B hml hP _
    have hh0 : s₁.heap = s.heap := by rw [B.state]; rfl
    obtain ⟨t, a1, o, b1, b2, b3⟩ := body p e s m args below meth c s₁ B hml hP s₁ hh0 (Stand.of_body B)
    exact ⟨t, o, a1, b1, b2, b3⟩
/-! ===== END ===== -/
end
section
/-! ===== BEGIN printed: names, fields, word lists, decode rows ===== -/
def RX0 : String := "TowThatJerks$Line"
def TX0 : u_T := fun k => match k with
  | 0 => ("TowThatJerks$Line", "fathoms", "I", false)
  | 1 => ("TowThatJerks$Line", "heft", "I", false)
  | 2 => ("TowThatJerks$Line", "hundredthsOfGive", "I", false)
  | 3 => ("TowThatJerks$Line", "height", "I", false)
  | 4 => ("TowThatJerks$Line", "length", "I", false)
  | _ => ("TowThatJerks$Line", "pace", "I", false)
def tyX0 : Nat → FieldType := fun k => match k with
  | 0 => .int
  | 1 => .int
  | 2 => .int
  | 3 => .int
  | 4 => .int
  | _ => .int
abbrev wsX00 : List Cond := u_ws RX0 TX0 6
theorem nmX0 : ∀ a, a < 6 → ∀ b, b < 6 → a ≠ b → (TX0 a).2.1 ≠ (TX0 b).2.1 := by decide +kernel
theorem tyX0_ok : ∀ k, k < 6 → parseFieldDescriptor (TX0 k).2.2.1 = some (tyX0 k) := by decide +kernel
abbrev cX0_init : ByteArray := prog_2_method_1_code
def yX0_init : MethodName := ⟨RX0, "<init>", "()V"⟩
abbrev cX0_begin : ByteArray := prog_2_method_2_code
def yX0_begin : MethodName := ⟨RX0, "begin", "(LTowThatJerks$Tow;)V"⟩
abbrev cX0_add : ByteArray := prog_2_method_3_code
def yX0_add : MethodName := ⟨RX0, "add", "(LTowThatJerks$Piece;I)V"⟩
abbrev cX0_giveOfAll : ByteArray := prog_2_method_4_code
def yX0_giveOfAll : MethodName := ⟨RX0, "giveOfAll", "()I"⟩
abbrev cX0_hang : ByteArray := prog_2_method_5_code
def yX0_hang : MethodName := ⟨RX0, "hang", "()I"⟩
abbrev cX0_slack : ByteArray := prog_2_method_6_code
def yX0_slack : MethodName := ⟨RX0, "slack", "()I"⟩
abbrev cX0_base : ByteArray := prog_2_method_7_code
def yX0_base : MethodName := ⟨RX0, "base", "()I"⟩
abbrev cX0_riseAt : ByteArray := prog_2_method_8_code
def yX0_riseAt : MethodName := ⟨RX0, "riseAt", "(I)I"⟩
abbrev cX0_apartAt : ByteArray := prog_2_method_9_code
def yX0_apartAt : MethodName := ⟨RX0, "apartAt", "(I)I"⟩
abbrev cX0_overAt : ByteArray := prog_2_method_10_code
def yX0_overAt : MethodName := ⟨RX0, "overAt", "(I)I"⟩
abbrev cX0_pullOver : ByteArray := prog_2_method_11_code
def yX0_pullOver : MethodName := ⟨RX0, "pullOver", "(I)I"⟩
abbrev cX0_pullAt : ByteArray := prog_2_method_12_code
def yX0_pullAt : MethodName := ⟨RX0, "pullAt", "(I)I"⟩
abbrev cX0_greatestPull : ByteArray := prog_2_method_13_code
def yX0_greatestPull : MethodName := ⟨RX0, "greatestPull", "()I"⟩
abbrev cX0_whenGreatest : ByteArray := prog_2_method_14_code
def yX0_whenGreatest : MethodName := ⟨RX0, "whenGreatest", "()I"⟩
abbrev cX0_pullsAbove : ByteArray := prog_2_method_15_code
def yX0_pullsAbove : MethodName := ⟨RX0, "pullsAbove", "(I)I"⟩
def RX1 : String := "TowThatJerks$Piece"
def TX1 : u_T := fun k => match k with
  | 0 => ("TowThatJerks$Piece", "kind", "I", false)
  | 1 => ("TowThatJerks$Piece", "figure", "I", false)
  | 2 => ("TowThatJerks$Piece", "fathoms", "I", false)
  | 3 => ("TowThatJerks$Piece", "number", "I", false)
  | 4 => ("TowThatJerks$Piece", "hurt", "I", false)
  | 5 => ("TowThatJerks$Piece", "heft", "I", false)
  | 6 => ("TowThatJerks$Piece", "give", "I", false)
  | 7 => ("TowThatJerks$Piece", "strength", "I", false)
  | _ => ("TowThatJerks$Piece", "wear", "I", false)
def tyX1 : Nat → FieldType := fun k => match k with
  | 0 => .int
  | 1 => .int
  | 2 => .int
  | 3 => .int
  | 4 => .int
  | 5 => .int
  | 6 => .int
  | 7 => .int
  | _ => .int
abbrev wsX10 : List Cond := u_ws RX1 TX1 9
theorem nmX1 : ∀ a, a < 9 → ∀ b, b < 9 → a ≠ b → (TX1 a).2.1 ≠ (TX1 b).2.1 := by decide +kernel
theorem tyX1_ok : ∀ k, k < 9 → parseFieldDescriptor (TX1 k).2.2.1 = some (tyX1 k) := by decide +kernel
abbrev cX1_init : ByteArray := prog_3_method_1_code
def yX1_init : MethodName := ⟨RX1, "<init>", "()V"⟩
abbrev cX1_begin : ByteArray := prog_3_method_2_code
def yX1_begin : MethodName := ⟨RX1, "begin", "(IIII)V"⟩
abbrev cX1_become : ByteArray := prog_3_method_3_code
def yX1_become : MethodName := ⟨RX1, "become", "(LTowThatJerks$Piece;)V"⟩
abbrev cX1_heftOf : ByteArray := prog_3_method_4_code
def yX1_heftOf : MethodName := ⟨RX1, "heftOf", "(II)I"⟩
abbrev cX1_giveOf : ByteArray := prog_3_method_5_code
def yX1_giveOf : MethodName := ⟨RX1, "giveOf", "(II)I"⟩
abbrev cX1_strengthOf : ByteArray := prog_3_method_6_code
def yX1_strengthOf : MethodName := ⟨RX1, "strengthOf", "(II)I"⟩
abbrev cX1_wearOf : ByteArray := prog_3_method_7_code
def yX1_wearOf : MethodName := ⟨RX1, "wearOf", "(II)I"⟩
abbrev cX1_cost : ByteArray := prog_3_method_8_code
def yX1_cost : MethodName := ⟨RX1, "cost", "()I"⟩
abbrev cX1_costOf : ByteArray := prog_3_method_9_code
def yX1_costOf : MethodName := ⟨RX1, "costOf", "(III)I"⟩
abbrev cX1_bear : ByteArray := prog_3_method_10_code
def yX1_bear : MethodName := ⟨RX1, "bear", "()V"⟩
abbrev cX1_fail : ByteArray := prog_3_method_11_code
def yX1_fail : MethodName := ⟨RX1, "fail", "()V"⟩
abbrev cX1_numberOfFailure : ByteArray := prog_3_method_12_code
def yX1_numberOfFailure : MethodName := ⟨RX1, "numberOfFailure", "()I"⟩
def RX2 : String := "TowThatJerks$Reader"
def TX2 : u_T := fun k => match k with
  | 0 => ("TowThatJerks$Reader", "place", "I", false)
  | 1 => ("TowThatJerks$Reader", "numbers", "[I", true)
  | _ => ("TowThatJerks$Reader", "found", "I", false)
def tyX2 : Nat → FieldType := fun k => match k with
  | 0 => .int
  | 1 => .array .int
  | _ => .int
abbrev wsX20 : List Cond := u_ws RX2 TX2 3
theorem nmX2 : ∀ a, a < 3 → ∀ b, b < 3 → a ≠ b → (TX2 a).2.1 ≠ (TX2 b).2.1 := by decide +kernel
theorem tyX2_ok : ∀ k, k < 3 → parseFieldDescriptor (TX2 k).2.2.1 = some (tyX2 k) := by decide +kernel
abbrev cX2_init : ByteArray := prog_4_method_1_code
def yX2_init : MethodName := ⟨RX2, "<init>", "()V"⟩
abbrev cX2_read : ByteArray := prog_4_method_2_code
def yX2_read : MethodName := ⟨RX2, "read", "(LTowThatJerks$Shelf;LTowThatJerks$Tow;)I"⟩
abbrev cX2_shapeBehind : ByteArray := prog_4_method_3_code
def yX2_shapeBehind : MethodName := ⟨RX2, "shapeBehind", "(I)Ljava/lang/String;"⟩
abbrev cX2_scanStatement : ByteArray := prog_4_method_4_code
def yX2_scanStatement : MethodName := ⟨RX2, "scanStatement", "(LTowThatJerks$Shelf;)Z"⟩
abbrev cX2_scanPart : ByteArray := prog_4_method_5_code
def yX2_scanPart : MethodName := ⟨RX2, "scanPart", "(LTowThatJerks$Shelf;I)Z"⟩
abbrev cX2_scanNumber : ByteArray := prog_4_method_6_code
def yX2_scanNumber : MethodName := ⟨RX2, "scanNumber", "(LTowThatJerks$Shelf;I)Z"⟩
abbrev cX2_take : ByteArray := prog_4_method_7_code
def yX2_take : MethodName := ⟨RX2, "take", "(II)Z"⟩
abbrev cX2_isDigit : ByteArray := prog_4_method_8_code
def yX2_isDigit : MethodName := ⟨RX2, "isDigit", "(I)Z"⟩
abbrev cX2_obey : ByteArray := prog_4_method_9_code
def yX2_obey : MethodName := ⟨RX2, "obey", "(ILTowThatJerks$Tow;)Z"⟩
def RX3 : String := "TowThatJerks$Shelf"
def TX3 : u_T := fun k => match k with
  | 0 => ("TowThatJerks$Shelf", "holding", "I", false)
  | 1 => ("TowThatJerks$Shelf", "piece", "LTowThatJerks$Piece;", true)
  | 2 => ("TowThatJerks$Shelf", "sort", "I", false)
  | 3 => ("TowThatJerks$Shelf", "size", "I", false)
  | _ => ("TowThatJerks$Shelf", "elements", "[I", true)
def tyX3 : Nat → FieldType := fun k => match k with
  | 0 => .int
  | 1 => .object "TowThatJerks$Piece"
  | 2 => .int
  | 3 => .int
  | _ => .array .int
abbrev wsX30 : List Cond := u_ws RX3 TX3 5
theorem nmX3 : ∀ a, a < 5 → ∀ b, b < 5 → a ≠ b → (TX3 a).2.1 ≠ (TX3 b).2.1 := by decide +kernel
theorem tyX3_ok : ∀ k, k < 5 → parseFieldDescriptor (TX3 k).2.2.1 = some (tyX3 k) := by decide +kernel
abbrev cX3_init : ByteArray := prog_5_method_1_code
def yX3_init : MethodName := ⟨RX3, "<init>", "()V"⟩
abbrev cX3_empty : ByteArray := prog_5_method_2_code
def yX3_empty : MethodName := ⟨RX3, "empty", "()V"⟩
abbrev cX3_keepPiece : ByteArray := prog_5_method_3_code
def yX3_keepPiece : MethodName := ⟨RX3, "keepPiece", "(LTowThatJerks$Piece;)V"⟩
abbrev cX3_beginRow : ByteArray := prog_5_method_4_code
def yX3_beginRow : MethodName := ⟨RX3, "beginRow", "(II)V"⟩
abbrev cX3_hasPlace : ByteArray := prog_5_method_5_code
def yX3_hasPlace : MethodName := ⟨RX3, "hasPlace", "(I)Z"⟩
abbrev cX3_hasPlaces : ByteArray := prog_5_method_6_code
def yX3_hasPlaces : MethodName := ⟨RX3, "hasPlaces", "(II)Z"⟩
abbrev cX3_putLowestBits : ByteArray := prog_5_method_7_code
def yX3_putLowestBits : MethodName := ⟨RX3, "putLowestBits", "(II)V"⟩
abbrev cX3_leastOfSort : ByteArray := prog_5_method_8_code
def yX3_leastOfSort : MethodName := ⟨RX3, "leastOfSort", "()I"⟩
abbrev cX3_byteAt : ByteArray := prog_5_method_9_code
def yX3_byteAt : MethodName := ⟨RX3, "byteAt", "(I)I"⟩
abbrev cX3_legsHeld : ByteArray := prog_5_method_10_code
def yX3_legsHeld : MethodName := ⟨RX3, "legsHeld", "()I"⟩
abbrev cX3_holdsLegs : ByteArray := prog_5_method_11_code
def yX3_holdsLegs : MethodName := ⟨RX3, "holdsLegs", "()Z"⟩
def RX4 : String := "TowThatJerks$Tow"
def TX4 : u_T := fun k => match k with
  | 0 => ("TowThatJerks$Tow", "pieces", "[LTowThatJerks$Piece;", true)
  | 1 => ("TowThatJerks$Tow", "count", "I", false)
  | 2 => ("TowThatJerks$Tow", "settings", "[I", true)
  | 3 => ("TowThatJerks$Tow", "angle", "I", false)
  | 4 => ("TowThatJerks$Tow", "swing", "I", false)
  | 5 => ("TowThatJerks$Tow", "number", "I", false)
  | 6 => ("TowThatJerks$Tow", "jerks", "I", false)
  | 7 => ("TowThatJerks$Tow", "parted", "I", false)
  | _ => ("TowThatJerks$Tow", "partingPull", "I", false)
def tyX4 : Nat → FieldType := fun k => match k with
  | 0 => .array (.object "TowThatJerks$Piece")
  | 1 => .int
  | 2 => .array .int
  | 3 => .int
  | 4 => .int
  | 5 => .int
  | 6 => .int
  | 7 => .int
  | _ => .int
abbrev wsX40 : List Cond := u_ws RX4 TX4 9
theorem nmX4 : ∀ a, a < 9 → ∀ b, b < 9 → a ≠ b → (TX4 a).2.1 ≠ (TX4 b).2.1 := by decide +kernel
theorem tyX4_ok : ∀ k, k < 9 → parseFieldDescriptor (TX4 k).2.2.1 = some (tyX4 k) := by decide +kernel
abbrev cX4_init : ByteArray := prog_6_method_1_code
def yX4_init : MethodName := ⟨RX4, "<init>", "()V"⟩
abbrev cX4_become : ByteArray := prog_6_method_2_code
def yX4_become : MethodName := ⟨RX4, "become", "(LTowThatJerks$Tow;)V"⟩
abbrev cX4_has : ByteArray := prog_6_method_3_code
def yX4_has : MethodName := ⟨RX4, "has", "(I)Z"⟩
abbrev cX4_hasLine : ByteArray := prog_6_method_4_code
def yX4_hasLine : MethodName := ⟨RX4, "hasLine", "()Z"⟩
abbrev cX4_addPiece : ByteArray := prog_6_method_5_code
def yX4_addPiece : MethodName := ⟨RX4, "addPiece", "(III)Z"⟩
abbrev cX4_maySet : ByteArray := prog_6_method_6_code
def yX4_maySet : MethodName := ⟨RX4, "maySet", "(II)Z"⟩
abbrev cX4_change : ByteArray := prog_6_method_7_code
def yX4_change : MethodName := ⟨RX4, "change", "(II)Z"⟩
abbrev cX4_passTenth : ByteArray := prog_6_method_8_code
def yX4_passTenth : MethodName := ⟨RX4, "passTenth", "(LTowThatJerks$Line;)I"⟩
abbrev cX4_firstWeakerThan : ByteArray := prog_6_method_9_code
def yX4_firstWeakerThan : MethodName := ⟨RX4, "firstWeakerThan", "(I)I"⟩
abbrev cX4_hurtPieces : ByteArray := prog_6_method_10_code
def yX4_hurtPieces : MethodName := ⟨RX4, "hurtPieces", "()V"⟩
abbrev cX4_hurtOfAll : ByteArray := prog_6_method_11_code
def yX4_hurtOfAll : MethodName := ⟨RX4, "hurtOfAll", "()I"⟩
abbrev cX4_passYaw : ByteArray := prog_6_method_12_code
def yX4_passYaw : MethodName := ⟨RX4, "passYaw", "()V"⟩
abbrev cX4_greatestYaw : ByteArray := prog_6_method_13_code
def yX4_greatestYaw : MethodName := ⟨RX4, "greatestYaw", "(I)I"⟩
def RX5 : String := "TowThatJerks"
def TX5 : u_T := fun k => match k with
  | 0 => ("TowThatJerks", "now", "LTowThatJerks$Tow;", true)
  | 1 => ("TowThatJerks", "image", "LTowThatJerks$Tow;", true)
  | 2 => ("TowThatJerks", "mind", "LTowThatJerks$Tow;", true)
  | 3 => ("TowThatJerks", "line", "LTowThatJerks$Line;", true)
  | 4 => ("TowThatJerks", "spare", "LTowThatJerks$Piece;", true)
  | 5 => ("TowThatJerks", "reader", "LTowThatJerks$Reader;", true)
  | 6 => ("TowThatJerks", "shelves", "[LTowThatJerks$Shelf;", true)
  | _ => ("TowThatJerks", "imageTaken", "Z", false)
def tyX5 : Nat → FieldType := fun k => match k with
  | 0 => .object "TowThatJerks$Tow"
  | 1 => .object "TowThatJerks$Tow"
  | 2 => .object "TowThatJerks$Tow"
  | 3 => .object "TowThatJerks$Line"
  | 4 => .object "TowThatJerks$Piece"
  | 5 => .object "TowThatJerks$Reader"
  | 6 => .array (.object "TowThatJerks$Shelf")
  | _ => .boolean
abbrev wsX50 : List Cond := u_ws RX5 TX5 8
theorem nmX5 : ∀ a, a < 8 → ∀ b, b < 8 → a ≠ b → (TX5 a).2.1 ≠ (TX5 b).2.1 := by decide +kernel
theorem tyX5_ok : ∀ k, k < 8 → parseFieldDescriptor (TX5 k).2.2.1 = some (tyX5 k) := by decide +kernel
abbrev cX5_init : ByteArray := prog_1_method_1_code
def yX5_init : MethodName := ⟨RX5, "<init>", "()V"⟩
abbrev cX5_tow : ByteArray := prog_1_method_2_code
def yX5_tow : MethodName := ⟨RX5, "tow", "(I)I"⟩
abbrev cX5_piece : ByteArray := prog_1_method_3_code
def yX5_piece : MethodName := ⟨RX5, "piece", "(II)I"⟩
abbrev cX5_set : ByteArray := prog_1_method_4_code
def yX5_set : MethodName := ⟨RX5, "set", "(II)I"⟩
abbrev cX5_line : ByteArray := prog_1_method_5_code
def yX5_line : MethodName := ⟨RX5, "line", "(I)I"⟩
abbrev cX5_apart : ByteArray := prog_1_method_6_code
def yX5_apart : MethodName := ⟨RX5, "apart", "(I)I"⟩
abbrev cX5_pull : ByteArray := prog_1_method_7_code
def yX5_pull : MethodName := ⟨RX5, "pull", "(I)I"⟩
abbrev cX5_tenth : ByteArray := prog_1_method_8_code
def yX5_tenth : MethodName := ⟨RX5, "tenth", "()I"⟩
abbrev cX5_greatest : ByteArray := prog_1_method_9_code
def yX5_greatest : MethodName := ⟨RX5, "greatest", "(I)I"⟩
abbrev cX5_holds : ByteArray := prog_1_method_10_code
def yX5_holds : MethodName := ⟨RX5, "holds", "(II)I"⟩
abbrev cX5_fastest : ByteArray := prog_1_method_11_code
def yX5_fastest : MethodName := ⟨RX5, "fastest", "(I)I"⟩
abbrev cX5_longer : ByteArray := prog_1_method_12_code
def yX5_longer : MethodName := ⟨RX5, "longer", "(II)I"⟩
abbrev cX5_stock : ByteArray := prog_1_method_13_code
def yX5_stock : MethodName := ⟨RX5, "stock", "(II)I"⟩
abbrev cX5_bridge : ByteArray := prog_1_method_14_code
def yX5_bridge : MethodName := ⟨RX5, "bridge", "(II)I"⟩
abbrev cX5_fouls : ByteArray := prog_1_method_15_code
def yX5_fouls : MethodName := ⟨RX5, "fouls", "()I"⟩
abbrev cX5_takeIn : ByteArray := prog_1_method_16_code
def yX5_takeIn : MethodName := ⟨RX5, "takeIn", "()I"⟩
abbrev cX5_shallowest : ByteArray := prog_1_method_17_code
def yX5_shallowest : MethodName := ⟨RX5, "shallowest", "()I"⟩
abbrev cX5_odds : ByteArray := prog_1_method_18_code
def yX5_odds : MethodName := ⟨RX5, "odds", "(II)I"⟩
abbrev cX5_yaw : ByteArray := prog_1_method_19_code
def yX5_yaw : MethodName := ⟨RX5, "yaw", "(I)I"⟩
abbrev cX5_yaws : ByteArray := prog_1_method_20_code
def yX5_yaws : MethodName := ⟨RX5, "yaws", "(I)I"⟩
abbrev cX5_swings : ByteArray := prog_1_method_21_code
def yX5_swings : MethodName := ⟨RX5, "swings", "(II)I"⟩
abbrev cX5_grows : ByteArray := prog_1_method_22_code
def yX5_grows : MethodName := ⟨RX5, "grows", "()I"⟩
abbrev cX5_held : ByteArray := prog_1_method_23_code
def yX5_held : MethodName := ⟨RX5, "held", "()I"⟩
abbrev cX5_whip : ByteArray := prog_1_method_24_code
def yX5_whip : MethodName := ⟨RX5, "whip", "(I)I"⟩
abbrev cX5_renders : ByteArray := prog_1_method_25_code
def yX5_renders : MethodName := ⟨RX5, "renders", "(I)I"⟩
abbrev cX5_winch : ByteArray := prog_1_method_26_code
def yX5_winch : MethodName := ⟨RX5, "winch", "(I)I"⟩
abbrev cX5_legs : ByteArray := prog_1_method_27_code
def yX5_legs : MethodName := ⟨RX5, "legs", "(II)I"⟩
abbrev cX5_why : ByteArray := prog_1_method_28_code
def yX5_why : MethodName := ⟨RX5, "why", "(I)I"⟩
abbrev cX5_caravan : ByteArray := prog_1_method_29_code
def yX5_caravan : MethodName := ⟨RX5, "caravan", "(I)I"⟩
abbrev cX5_judge : ByteArray := prog_1_method_30_code
def yX5_judge : MethodName := ⟨RX5, "judge", "(I)I"⟩
abbrev cX5_image : ByteArray := prog_1_method_31_code
def yX5_image : MethodName := ⟨RX5, "image", "()I"⟩
abbrev cX5_restore : ByteArray := prog_1_method_32_code
def yX5_restore : MethodName := ⟨RX5, "restore", "()I"⟩
abbrev cX5_count : ByteArray := prog_1_method_33_code
def yX5_count : MethodName := ⟨RX5, "count", "(I)I"⟩
abbrev cX5_keep : ByteArray := prog_1_method_34_code
def yX5_keep : MethodName := ⟨RX5, "keep", "(III)I"⟩
abbrev cX5_row : ByteArray := prog_1_method_35_code
def yX5_row : MethodName := ⟨RX5, "row", "(III)I"⟩
abbrev cX5_put : ByteArray := prog_1_method_36_code
def yX5_put : MethodName := ⟨RX5, "put", "(III)I"⟩
abbrev cX5_element : ByteArray := prog_1_method_37_code
def yX5_element : MethodName := ⟨RX5, "element", "(II)J"⟩
abbrev cX5_copy : ByteArray := prog_1_method_38_code
def yX5_copy : MethodName := ⟨RX5, "copy", "(IIIII)I"⟩
abbrev cX5_price : ByteArray := prog_1_method_39_code
def yX5_price : MethodName := ⟨RX5, "price", "(I)I"⟩
abbrev cX5_toss : ByteArray := prog_1_method_40_code
def yX5_toss : MethodName := ⟨RX5, "toss", "(I)I"⟩
abbrev cX5_isWithin : ByteArray := prog_1_method_41_code
def yX5_isWithin : MethodName := ⟨RX5, "isWithin", "(III)Z"⟩
abbrev cX5_heldWithin : ByteArray := prog_1_method_42_code
def yX5_heldWithin : MethodName := ⟨RX5, "heldWithin", "(III)I"⟩
abbrev cX5_isShelf : ByteArray := prog_1_method_43_code
def yX5_isShelf : MethodName := ⟨RX5, "isShelf", "(I)Z"⟩
abbrev cX5_refusalOfHolding : ByteArray := prog_1_method_44_code
def yX5_refusalOfHolding : MethodName := ⟨RX5, "refusalOfHolding", "(II)I"⟩
abbrev cX5_refusalOfPiece : ByteArray := prog_1_method_45_code
def yX5_refusalOfPiece : MethodName := ⟨RX5, "refusalOfPiece", "(I)I"⟩
abbrev cX5_refusalOfRow : ByteArray := prog_1_method_46_code
def yX5_refusalOfRow : MethodName := ⟨RX5, "refusalOfRow", "(I)I"⟩
abbrev cX5_refusalOfBytes : ByteArray := prog_1_method_47_code
def yX5_refusalOfBytes : MethodName := ⟨RX5, "refusalOfBytes", "(I)I"⟩
abbrev cX5_layLine : ByteArray := prog_1_method_48_code
def yX5_layLine : MethodName := ⟨RX5, "layLine", "()Z"⟩
abbrev cX5_layStock : ByteArray := prog_1_method_49_code
def yX5_layStock : MethodName := ⟨RX5, "layStock", "(I)Z"⟩
abbrev cX5_partsWithin : ByteArray := prog_1_method_50_code
def yX5_partsWithin : MethodName := ⟨RX5, "partsWithin", "(I)I"⟩
abbrev cX5_holdsByDraws : ByteArray := prog_1_method_51_code
def yX5_holdsByDraws : MethodName := ⟨RX5, "holdsByDraws", "(I)Z"⟩
abbrev cX5_fewestTakenIn : ByteArray := prog_1_method_52_code
def yX5_fewestTakenIn : MethodName := ⟨RX5, "fewestTakenIn", "(LTowThatJerks$Piece;I)I"⟩
abbrev cX5_growsWith : ByteArray := prog_1_method_53_code
def yX5_growsWith : MethodName := ⟨RX5, "growsWith", "(I)Z"⟩
abbrev cX5_greatestOfLegs : ByteArray := prog_1_method_54_code
def yX5_greatestOfLegs : MethodName := ⟨RX5, "greatestOfLegs", "(LTowThatJerks$Shelf;I)I"⟩
abbrev cX5_hoursOfLegs : ByteArray := prog_1_method_55_code
def yX5_hoursOfLegs : MethodName := ⟨RX5, "hoursOfLegs", "(LTowThatJerks$Shelf;)I"⟩
abbrev cX5_legToSlow : ByteArray := prog_1_method_56_code
def yX5_legToSlow : MethodName := ⟨RX5, "legToSlow", "(LTowThatJerks$Shelf;)I"⟩
def RX6 : String := "TowThatJerksModel"
def TX6 : u_T := fun k => match k with
  | 0 => ("TowThatJerksModel", "s", "[I", true)
  | 1 => ("TowThatJerksModel", "image", "[I", true)
  | 2 => ("TowThatJerksModel", "read", "[I", true)
  | 3 => ("TowThatJerksModel", "mind", "[I", true)
  | 4 => ("TowThatJerksModel", "kept", "[I", true)
  | 5 => ("TowThatJerksModel", "sort", "[I", true)
  | 6 => ("TowThatJerksModel", "size", "[I", true)
  | 7 => ("TowThatJerksModel", "element", "[I", true)
  | 8 => ("TowThatJerksModel", "keptPrice", "[I", true)
  | 9 => ("TowThatJerksModel", "keptToss", "[I", true)
  | 10 => ("TowThatJerksModel", "hasImage", "Z", false)
  | 11 => ("TowThatJerksModel", "thrown", "I", false)
  | 12 => ("TowThatJerksModel", "pos", "I", false)
  | 13 => ("TowThatJerksModel", "base", "I", false)
  | 14 => ("TowThatJerksModel", "end", "I", false)
  | 15 => ("TowThatJerksModel", "told", "I", false)
  | 16 => ("TowThatJerksModel", "isBelow", "Z", false)
  | 17 => ("TowThatJerksModel", "numbers", "[I", true)
  | 18 => ("TowThatJerksModel", "fathoms", "I", false)
  | 19 => ("TowThatJerksModel", "heft", "I", false)
  | 20 => ("TowThatJerksModel", "give", "I", false)
  | 21 => ("TowThatJerksModel", "isJerk", "Z", false)
  | 22 => ("TowThatJerksModel", "partedAt", "I", false)
  | _ => ("TowThatJerksModel", "greatestAt", "I", false)
def tyX6 : Nat → FieldType := fun k => match k with
  | 0 => .array .int
  | 1 => .array .int
  | 2 => .array .int
  | 3 => .array .int
  | 4 => .array .int
  | 5 => .array .int
  | 6 => .array .int
  | 7 => .array .int
  | 8 => .array .int
  | 9 => .array .int
  | 10 => .boolean
  | 11 => .int
  | 12 => .int
  | 13 => .int
  | 14 => .int
  | 15 => .int
  | 16 => .boolean
  | 17 => .array .int
  | 18 => .int
  | 19 => .int
  | 20 => .int
  | 21 => .boolean
  | 22 => .int
  | _ => .int
abbrev wsX60 : List Cond := u_ws RX6 TX6 24
theorem nmX6 : ∀ a, a < 24 → ∀ b, b < 24 → a ≠ b → (TX6 a).2.1 ≠ (TX6 b).2.1 := by decide +kernel
theorem tyX6_ok : ∀ k, k < 24 → parseFieldDescriptor (TX6 k).2.2.1 = some (tyX6 k) := by decide +kernel
abbrev cX6_init : ByteArray := prog_8_method_1_code
def yX6_init : MethodName := ⟨RX6, "<init>", "()V"⟩
abbrev cX6_thrown : ByteArray := prog_8_method_2_code
def yX6_thrown : MethodName := ⟨RX6, "thrown", "()I"⟩
abbrev cX6_isIn : ByteArray := prog_8_method_3_code
def yX6_isIn : MethodName := ⟨RX6, "isIn", "(JJJ)Z"⟩
abbrev cX6_isPiece : ByteArray := prog_8_method_4_code
def yX6_isPiece : MethodName := ⟨RX6, "isPiece", "(I)Z"⟩
abbrev cX6_isShelf : ByteArray := prog_8_method_5_code
def yX6_isShelf : MethodName := ⟨RX6, "isShelf", "(I)Z"⟩
abbrev cX6_get : ByteArray := prog_8_method_6_code
def yX6_get : MethodName := ⟨RX6, "get", "(II)I"⟩
abbrev cX6_puts : ByteArray := prog_8_method_7_code
def yX6_puts : MethodName := ⟨RX6, "puts", "(III)V"⟩
abbrev cX6_amount : ByteArray := prog_8_method_8_code
def yX6_amount : MethodName := ⟨RX6, "amount", "(I)I"⟩
abbrev cX6_within : ByteArray := prog_8_method_9_code
def yX6_within : MethodName := ⟨RX6, "within", "(II)I"⟩
abbrev cX6_copies : ByteArray := prog_8_method_10_code
def yX6_copies : MethodName := ⟨RX6, "copies", "([I[I)V"⟩
abbrev cX6_here : ByteArray := prog_8_method_11_code
def yX6_here : MethodName := ⟨RX6, "here", "()I"⟩
abbrev cX6_isDigit : ByteArray := prog_8_method_12_code
def yX6_isDigit : MethodName := ⟨RX6, "isDigit", "()Z"⟩
abbrev cX6_takes : ByteArray := prog_8_method_13_code
def yX6_takes : MethodName := ⟨RX6, "takes", "(I)Z"⟩
abbrev cX6_readsNumber : ByteArray := prog_8_method_14_code
def yX6_readsNumber : MethodName := ⟨RX6, "readsNumber", "(I)Z"⟩
abbrev cX6_readsStatement : ByteArray := prog_8_method_15_code
def yX6_readsStatement : MethodName := ⟨RX6, "readsStatement", "()Z"⟩
abbrev cX6_comes : ByteArray := prog_8_method_16_code
def yX6_comes : MethodName := ⟨RX6, "comes", "(I)Z"⟩
abbrev cX6_wrongRow : ByteArray := prog_8_method_17_code
def yX6_wrongRow : MethodName := ⟨RX6, "wrongRow", "(II)I"⟩
abbrev cX6_tow : ByteArray := prog_8_method_18_code
def yX6_tow : MethodName := ⟨RX6, "tow", "(I)I"⟩
abbrev cX6_heftBy : ByteArray := prog_8_method_19_code
def yX6_heftBy : MethodName := ⟨RX6, "heftBy", "(II)I"⟩
abbrev cX6_giveBy : ByteArray := prog_8_method_20_code
def yX6_giveBy : MethodName := ⟨RX6, "giveBy", "(II)I"⟩
abbrev cX6_strengthBy : ByteArray := prog_8_method_21_code
def yX6_strengthBy : MethodName := ⟨RX6, "strengthBy", "(II)I"⟩
abbrev cX6_wearBy : ByteArray := prog_8_method_22_code
def yX6_wearBy : MethodName := ⟨RX6, "wearBy", "(II)I"⟩
abbrev cX6_strengthOf : ByteArray := prog_8_method_23_code
def yX6_strengthOf : MethodName := ⟨RX6, "strengthOf", "(I)I"⟩
abbrev cX6_piece : ByteArray := prog_8_method_24_code
def yX6_piece : MethodName := ⟨RX6, "piece", "(II)I"⟩
abbrev cX6_leastOf : ByteArray := prog_8_method_25_code
def yX6_leastOf : MethodName := ⟨RX6, "leastOf", "(I)I"⟩
abbrev cX6_mostOf : ByteArray := prog_8_method_26_code
def yX6_mostOf : MethodName := ⟨RX6, "mostOf", "(I)I"⟩
abbrev cX6_set : ByteArray := prog_8_method_27_code
def yX6_set : MethodName := ⟨RX6, "set", "(II)I"⟩
abbrev cX6_sumsUp : ByteArray := prog_8_method_28_code
def yX6_sumsUp : MethodName := ⟨RX6, "sumsUp", "(I)V"⟩
abbrev cX6_rounds : ByteArray := prog_8_method_29_code
def yX6_rounds : MethodName := ⟨RX6, "rounds", "()V"⟩
abbrev cX6_allPieces : ByteArray := prog_8_method_30_code
def yX6_allPieces : MethodName := ⟨RX6, "allPieces", "()I"⟩
abbrev cX6_isLine : ByteArray := prog_8_method_31_code
def yX6_isLine : MethodName := ⟨RX6, "isLine", "()Z"⟩
abbrev cX6_hang : ByteArray := prog_8_method_32_code
def yX6_hang : MethodName := ⟨RX6, "hang", "()I"⟩
abbrev cX6_rise : ByteArray := prog_8_method_33_code
def yX6_rise : MethodName := ⟨RX6, "rise", "(II)I"⟩
abbrev cX6_apartAt : ByteArray := prog_8_method_34_code
def yX6_apartAt : MethodName := ⟨RX6, "apartAt", "(II)I"⟩
abbrev cX6_baseOf : ByteArray := prog_8_method_35_code
def yX6_baseOf : MethodName := ⟨RX6, "baseOf", "()I"⟩
abbrev cX6_pullAt : ByteArray := prog_8_method_36_code
def yX6_pullAt : MethodName := ⟨RX6, "pullAt", "(II)I"⟩
abbrev cX6_line : ByteArray := prog_8_method_37_code
def yX6_line : MethodName := ⟨RX6, "line", "(I)I"⟩
abbrev cX6_apart : ByteArray := prog_8_method_38_code
def yX6_apart : MethodName := ⟨RX6, "apart", "(I)I"⟩
abbrev cX6_pull : ByteArray := prog_8_method_39_code
def yX6_pull : MethodName := ⟨RX6, "pull", "(I)I"⟩
abbrev cX6_goesTenth : ByteArray := prog_8_method_40_code
def yX6_goesTenth : MethodName := ⟨RX6, "goesTenth", "(I)I"⟩
abbrev cX6_tenth : ByteArray := prog_8_method_41_code
def yX6_tenth : MethodName := ⟨RX6, "tenth", "()I"⟩
abbrev cX6_greatestOf : ByteArray := prog_8_method_42_code
def yX6_greatestOf : MethodName := ⟨RX6, "greatestOf", "()I"⟩
abbrev cX6_greatest : ByteArray := prog_8_method_43_code
def yX6_greatest : MethodName := ⟨RX6, "greatest", "(I)I"⟩
abbrev cX6_partsIn : ByteArray := prog_8_method_44_code
def yX6_partsIn : MethodName := ⟨RX6, "partsIn", "(I)I"⟩
abbrev cX6_holds : ByteArray := prog_8_method_45_code
def yX6_holds : MethodName := ⟨RX6, "holds", "(II)I"⟩
abbrev cX6_fastest : ByteArray := prog_8_method_46_code
def yX6_fastest : MethodName := ⟨RX6, "fastest", "(I)I"⟩
abbrev cX6_longer : ByteArray := prog_8_method_47_code
def yX6_longer : MethodName := ⟨RX6, "longer", "(II)I"⟩
abbrev cX6_stock : ByteArray := prog_8_method_48_code
def yX6_stock : MethodName := ⟨RX6, "stock", "(II)I"⟩
abbrev cX6_bridge : ByteArray := prog_8_method_49_code
def yX6_bridge : MethodName := ⟨RX6, "bridge", "(II)I"⟩
abbrev cX6_isFoul : ByteArray := prog_8_method_50_code
def yX6_isFoul : MethodName := ⟨RX6, "isFoul", "()Z"⟩
abbrev cX6_fouls : ByteArray := prog_8_method_51_code
def yX6_fouls : MethodName := ⟨RX6, "fouls", "()I"⟩
abbrev cX6_takeIn : ByteArray := prog_8_method_52_code
def yX6_takeIn : MethodName := ⟨RX6, "takeIn", "()I"⟩
abbrev cX6_shallowest : ByteArray := prog_8_method_53_code
def yX6_shallowest : MethodName := ⟨RX6, "shallowest", "()I"⟩
abbrev cX6_odds : ByteArray := prog_8_method_54_code
def yX6_odds : MethodName := ⟨RX6, "odds", "(II)I"⟩
abbrev cX6_goesYaw : ByteArray := prog_8_method_55_code
def yX6_goesYaw : MethodName := ⟨RX6, "goesYaw", "()V"⟩
abbrev cX6_yaw : ByteArray := prog_8_method_56_code
def yX6_yaw : MethodName := ⟨RX6, "yaw", "(I)I"⟩
abbrev cX6_yaws : ByteArray := prog_8_method_57_code
def yX6_yaws : MethodName := ⟨RX6, "yaws", "(I)I"⟩
abbrev cX6_swings : ByteArray := prog_8_method_58_code
def yX6_swings : MethodName := ⟨RX6, "swings", "(II)I"⟩
abbrev cX6_isGrowing : ByteArray := prog_8_method_59_code
def yX6_isGrowing : MethodName := ⟨RX6, "isGrowing", "()Z"⟩
abbrev cX6_grows : ByteArray := prog_8_method_60_code
def yX6_grows : MethodName := ⟨RX6, "grows", "()I"⟩
abbrev cX6_held : ByteArray := prog_8_method_61_code
def yX6_held : MethodName := ⟨RX6, "held", "()I"⟩
abbrev cX6_whip : ByteArray := prog_8_method_62_code
def yX6_whip : MethodName := ⟨RX6, "whip", "(I)I"⟩
abbrev cX6_above : ByteArray := prog_8_method_63_code
def yX6_above : MethodName := ⟨RX6, "above", "(I)I"⟩
abbrev cX6_renders : ByteArray := prog_8_method_64_code
def yX6_renders : MethodName := ⟨RX6, "renders", "(I)I"⟩
abbrev cX6_winch : ByteArray := prog_8_method_65_code
def yX6_winch : MethodName := ⟨RX6, "winch", "(I)I"⟩
abbrev cX6_greatestBy : ByteArray := prog_8_method_66_code
def yX6_greatestBy : MethodName := ⟨RX6, "greatestBy", "(II)I"⟩
abbrev cX6_wrongLegs : ByteArray := prog_8_method_67_code
def yX6_wrongLegs : MethodName := ⟨RX6, "wrongLegs", "(I)I"⟩
abbrev cX6_greatestLegs : ByteArray := prog_8_method_68_code
def yX6_greatestLegs : MethodName := ⟨RX6, "greatestLegs", "(II)I"⟩
abbrev cX6_legs : ByteArray := prog_8_method_69_code
def yX6_legs : MethodName := ⟨RX6, "legs", "(II)I"⟩
abbrev cX6_why : ByteArray := prog_8_method_70_code
def yX6_why : MethodName := ⟨RX6, "why", "(I)I"⟩
abbrev cX6_caravan : ByteArray := prog_8_method_71_code
def yX6_caravan : MethodName := ⟨RX6, "caravan", "(I)I"⟩
abbrev cX6_leastNumber : ByteArray := prog_8_method_72_code
def yX6_leastNumber : MethodName := ⟨RX6, "leastNumber", "(I)I"⟩
abbrev cX6_judge : ByteArray := prog_8_method_73_code
def yX6_judge : MethodName := ⟨RX6, "judge", "(I)I"⟩
abbrev cX6_image : ByteArray := prog_8_method_74_code
def yX6_image : MethodName := ⟨RX6, "image", "()I"⟩
abbrev cX6_restore : ByteArray := prog_8_method_75_code
def yX6_restore : MethodName := ⟨RX6, "restore", "()I"⟩
abbrev cX6_count : ByteArray := prog_8_method_76_code
def yX6_count : MethodName := ⟨RX6, "count", "(I)I"⟩
abbrev cX6_priceOf : ByteArray := prog_8_method_77_code
def yX6_priceOf : MethodName := ⟨RX6, "priceOf", "(I)I"⟩
abbrev cX6_keep : ByteArray := prog_8_method_78_code
def yX6_keep : MethodName := ⟨RX6, "keep", "(III)I"⟩
abbrev cX6_row : ByteArray := prog_8_method_79_code
def yX6_row : MethodName := ⟨RX6, "row", "(III)I"⟩
abbrev cX6_put : ByteArray := prog_8_method_80_code
def yX6_put : MethodName := ⟨RX6, "put", "(III)I"⟩
abbrev cX6_element : ByteArray := prog_8_method_81_code
def yX6_element : MethodName := ⟨RX6, "element", "(II)J"⟩
abbrev cX6_copy : ByteArray := prog_8_method_82_code
def yX6_copy : MethodName := ⟨RX6, "copy", "(IIIII)I"⟩
abbrev cX6_wrongKept : ByteArray := prog_8_method_83_code
def yX6_wrongKept : MethodName := ⟨RX6, "wrongKept", "(I)I"⟩
abbrev cX6_price : ByteArray := prog_8_method_84_code
def yX6_price : MethodName := ⟨RX6, "price", "(I)I"⟩
abbrev cX6_toss : ByteArray := prog_8_method_85_code
def yX6_toss : MethodName := ⟨RX6, "toss", "(I)I"⟩
def RJx145de : String := "java/io/Serializable"
def TJx145de : u_T := fun k => match k with
  | _ => ("", "", "", false)
def tyJx145de : Nat → FieldType := fun k => match k with
  | _ => .int
abbrev wsJx145de0 : List Cond := u_ws RJx145de TJx145de 0
theorem nmJx145de : ∀ a, a < 0 → ∀ b, b < 0 → a ≠ b → (TJx145de a).2.1 ≠ (TJx145de b).2.1 := by decide +kernel
theorem tyJx145de_ok : ∀ k, k < 0 → parseFieldDescriptor (TJx145de k).2.2.1 = some (tyJx145de k) := by decide +kernel
def RJx9f9b0 : String := "java/lang/CharSequence"
def TJx9f9b0 : u_T := fun k => match k with
  | _ => ("", "", "", false)
def tyJx9f9b0 : Nat → FieldType := fun k => match k with
  | _ => .int
abbrev wsJx9f9b00 : List Cond := u_ws RJx9f9b0 TJx9f9b0 0
theorem nmJx9f9b0 : ∀ a, a < 0 → ∀ b, b < 0 → a ≠ b → (TJx9f9b0 a).2.1 ≠ (TJx9f9b0 b).2.1 := by decide +kernel
theorem tyJx9f9b0_ok : ∀ k, k < 0 → parseFieldDescriptor (TJx9f9b0 k).2.2.1 = some (tyJx9f9b0 k) := by decide +kernel
def RJx8e188 : String := "java/lang/Cloneable"
def TJx8e188 : u_T := fun k => match k with
  | _ => ("", "", "", false)
def tyJx8e188 : Nat → FieldType := fun k => match k with
  | _ => .int
abbrev wsJx8e1880 : List Cond := u_ws RJx8e188 TJx8e188 0
theorem nmJx8e188 : ∀ a, a < 0 → ∀ b, b < 0 → a ≠ b → (TJx8e188 a).2.1 ≠ (TJx8e188 b).2.1 := by decide +kernel
theorem tyJx8e188_ok : ∀ k, k < 0 → parseFieldDescriptor (TJx8e188 k).2.2.1 = some (tyJx8e188 k) := by decide +kernel
def RJxb160c : String := "java/lang/Comparable"
def TJxb160c : u_T := fun k => match k with
  | _ => ("", "", "", false)
def tyJxb160c : Nat → FieldType := fun k => match k with
  | _ => .int
abbrev wsJxb160c0 : List Cond := u_ws RJxb160c TJxb160c 0
theorem nmJxb160c : ∀ a, a < 0 → ∀ b, b < 0 → a ≠ b → (TJxb160c a).2.1 ≠ (TJxb160c b).2.1 := by decide +kernel
theorem tyJxb160c_ok : ∀ k, k < 0 → parseFieldDescriptor (TJxb160c k).2.2.1 = some (tyJxb160c k) := by decide +kernel
def RJ9 : String := "java/lang/Math"
def TJ9 : u_T := fun k => match k with
  | _ => ("", "", "", false)
def tyJ9 : Nat → FieldType := fun k => match k with
  | _ => .int
abbrev wsJ90 : List Cond := u_ws RJ9 TJ9 0
theorem nmJ9 : ∀ a, a < 0 → ∀ b, b < 0 → a ≠ b → (TJ9 a).2.1 ≠ (TJ9 b).2.1 := by decide +kernel
theorem tyJ9_ok : ∀ k, k < 0 → parseFieldDescriptor (TJ9 k).2.2.1 = some (tyJ9 k) := by decide +kernel
abbrev cJ9_abs_0f7a4 : ByteArray := prog_13_method_59_code
def yJ9_abs_0f7a4 : MethodName := ⟨RJ9, "abs", "(I)I"⟩
abbrev cJ9_max_7cf53 : ByteArray := prog_13_method_65_code
def yJ9_max_7cf53 : MethodName := ⟨RJ9, "max", "(II)I"⟩
abbrev cJ9_min_7cf53 : ByteArray := prog_13_method_69_code
def yJ9_min_7cf53 : MethodName := ⟨RJ9, "min", "(II)I"⟩
def RJ0 : String := "java/lang/String"
def TJ0 : u_T := fun k => match k with
  | _ => ("", "", "", false)
def tyJ0 : Nat → FieldType := fun k => match k with
  | _ => .int
abbrev wsJ00 : List Cond := u_ws RJ0 TJ0 0
theorem nmJ0 : ∀ a, a < 0 → ∀ b, b < 0 → a ≠ b → (TJ0 a).2.1 ≠ (TJ0 b).2.1 := by decide +kernel
theorem tyJ0_ok : ∀ k, k < 0 → parseFieldDescriptor (TJ0 k).2.2.1 = some (tyJ0 k) := by decide +kernel
abbrev cJ0_length_8abf5 : ByteArray := prog_15_method_54_code
def yJ0_length_8abf5 : MethodName := ⟨RJ0, "length", "()I"⟩
abbrev cJ0_isEmpty_aae02 : ByteArray := prog_15_method_55_code
def yJ0_isEmpty_aae02 : MethodName := ⟨RJ0, "isEmpty", "()Z"⟩
abbrev cJ0_charAt_5068e : ByteArray := prog_15_method_56_code
def yJ0_charAt_5068e : MethodName := ⟨RJ0, "charAt", "(I)C"⟩
abbrev cJ0_coder_7d493 : ByteArray := prog_15_method_152_code
def yJ0_coder_7d493 : MethodName := ⟨RJ0, "coder", "()B"⟩
abbrev cJ0_isLatin1_aae02 : ByteArray := prog_15_method_154_code
def yJ0_isLatin1_aae02 : MethodName := ⟨RJ0, "isLatin1", "()Z"⟩
abbrev cJ0_checkIndex_df160 : ByteArray := prog_15_method_155_code
def yJ0_checkIndex_df160 : MethodName := ⟨RJ0, "checkIndex", "(II)V"⟩
def RJ1 : String := "java/lang/StringLatin1"
def TJ1 : u_T := fun k => match k with
  | _ => ("", "", "", false)
def tyJ1 : Nat → FieldType := fun k => match k with
  | _ => .int
abbrev wsJ10 : List Cond := u_ws RJ1 TJ1 0
theorem nmJ1 : ∀ a, a < 0 → ∀ b, b < 0 → a ≠ b → (TJ1 a).2.1 ≠ (TJ1 b).2.1 := by decide +kernel
theorem tyJ1_ok : ∀ k, k < 0 → parseFieldDescriptor (TJ1 k).2.2.1 = some (tyJ1 k) := by decide +kernel
abbrev cJ1_charAt_3b067 : ByteArray := prog_16_method_2_code
def yJ1_charAt_3b067 : MethodName := ⟨RJ1, "charAt", "([BI)C"⟩
def RJ2 : String := "java/lang/StringUTF16"
def TJ2 : u_T := fun k => match k with
  | _ => ("", "", "", false)
def tyJ2 : Nat → FieldType := fun k => match k with
  | _ => .int
abbrev wsJ20 : List Cond := u_ws RJ2 TJ2 0
theorem nmJ2 : ∀ a, a < 0 → ∀ b, b < 0 → a ≠ b → (TJ2 a).2.1 ≠ (TJ2 b).2.1 := by decide +kernel
theorem tyJ2_ok : ∀ k, k < 0 → parseFieldDescriptor (TJ2 k).2.2.1 = some (tyJ2 k) := by decide +kernel
abbrev cJ2_getChar_3b067 : ByteArray := prog_17_method_5_code
def yJ2_getChar_3b067 : MethodName := ⟨RJ2, "getChar", "([BI)C"⟩
abbrev cJ2_length_9d52b : ByteArray := prog_17_method_6_code
def yJ2_length_9d52b : MethodName := ⟨RJ2, "length", "([B)I"⟩
abbrev cJ2_charAt_3b067 : ByteArray := prog_17_method_83_code
def yJ2_charAt_3b067 : MethodName := ⟨RJ2, "charAt", "([BI)C"⟩
abbrev cJ2_checkIndex_2214a : ByteArray := prog_17_method_91_code
def yJ2_checkIndex_2214a : MethodName := ⟨RJ2, "checkIndex", "(I[B)V"⟩
def RJ10 : String := "java/lang/System"
def TJ10 : u_T := fun k => match k with
  | _ => ("", "", "", false)
def tyJ10 : Nat → FieldType := fun k => match k with
  | _ => .int
abbrev wsJ100 : List Cond := u_ws RJ10 TJ10 0
theorem nmJ10 : ∀ a, a < 0 → ∀ b, b < 0 → a ≠ b → (TJ10 a).2.1 ≠ (TJ10 b).2.1 := by decide +kernel
theorem tyJ10_ok : ∀ k, k < 0 → parseFieldDescriptor (TJ10 k).2.2.1 = some (tyJ10 k) := by decide +kernel
def RJxfd54e : String := "java/lang/constant/Constable"
def TJxfd54e : u_T := fun k => match k with
  | _ => ("", "", "", false)
def tyJxfd54e : Nat → FieldType := fun k => match k with
  | _ => .int
abbrev wsJxfd54e0 : List Cond := u_ws RJxfd54e TJxfd54e 0
theorem nmJxfd54e : ∀ a, a < 0 → ∀ b, b < 0 → a ≠ b → (TJxfd54e a).2.1 ≠ (TJxfd54e b).2.1 := by decide +kernel
theorem tyJxfd54e_ok : ∀ k, k < 0 → parseFieldDescriptor (TJxfd54e k).2.2.1 = some (tyJxfd54e k) := by decide +kernel
def RJx3cf43 : String := "java/lang/constant/ConstantDesc"
def TJx3cf43 : u_T := fun k => match k with
  | _ => ("", "", "", false)
def tyJx3cf43 : Nat → FieldType := fun k => match k with
  | _ => .int
abbrev wsJx3cf430 : List Cond := u_ws RJx3cf43 TJx3cf43 0
theorem nmJx3cf43 : ∀ a, a < 0 → ∀ b, b < 0 → a ≠ b → (TJx3cf43 a).2.1 ≠ (TJx3cf43 b).2.1 := by decide +kernel
theorem tyJx3cf43_ok : ∀ k, k < 0 → parseFieldDescriptor (TJx3cf43 k).2.2.1 = some (tyJx3cf43 k) := by decide +kernel
def RJ7 : String := "java/util/Arrays"
def TJ7 : u_T := fun k => match k with
  | _ => ("", "", "", false)
def tyJ7 : Nat → FieldType := fun k => match k with
  | _ => .int
abbrev wsJ70 : List Cond := u_ws RJ7 TJ7 0
theorem nmJ7 : ∀ a, a < 0 → ∀ b, b < 0 → a ≠ b → (TJ7 a).2.1 ≠ (TJ7 b).2.1 := by decide +kernel
theorem tyJ7_ok : ∀ k, k < 0 → parseFieldDescriptor (TJ7 k).2.2.1 = some (tyJ7 k) := by decide +kernel
abbrev cJ7_fill_53178 : ByteArray := prog_20_method_103_code
def yJ7_fill_53178 : MethodName := ⟨RJ7, "fill", "([II)V"⟩
def RJ3 : String := "jdk/internal/util/Preconditions"
def TJ3 : u_T := fun k => match k with
  | _ => ("", "", "", false)
def tyJ3 : Nat → FieldType := fun k => match k with
  | _ => .int
abbrev wsJ30 : List Cond := u_ws RJ3 TJ3 0
theorem nmJ3 : ∀ a, a < 0 → ∀ b, b < 0 → a ≠ b → (TJ3 a).2.1 ≠ (TJ3 b).2.1 := by decide +kernel
theorem tyJ3_ok : ∀ k, k < 0 → parseFieldDescriptor (TJ3 k).2.2.1 = some (tyJ3 k) := by decide +kernel
abbrev cJ3_checkIndex_8e157 : ByteArray := prog_21_method_11_code
def yJ3_checkIndex_8e157 : MethodName := ⟨RJ3, "checkIndex", "(IILjava/util/function/BiFunction;)I"⟩
def RL : String := "TowThatJerksLaw"
abbrev cL_element : ByteArray := method_3_code
def yL_element : MethodName := ⟨RL, "element", "(LTowThatJerks;II[J)I"⟩
abbrev cL_law : ByteArray := code
def yL_law : MethodName := ⟨RL, "law", "([I)Z"⟩
def wsL_law0_r1 : List Cond := [Cond.classLink RL 8 RX5, Cond.instantiable RX5 8, Cond.initialized RX5, Cond.classLink RL 18 RX6, Cond.instantiable RX6 24, Cond.initialized RX6, Cond.arrayClass .long, Cond.methodLink RL 17 yX5_init, Cond.instanceMethod yX5_init, Cond.code yX5_init cX5_init 2 none, Cond.methodLink RX5 1 objectInit, Cond.instanceMethod objectInit, Cond.code objectInit ⟨#[0xb1]⟩ 1 none, Cond.classLink RX5 7 RX4, Cond.instantiable RX4 9, Cond.initialized RX4, Cond.fieldLink RX5 10 "TowThatJerks" "now" "LTowThatJerks$Tow;", Cond.fieldLink RX5 16 "TowThatJerks" "image" "LTowThatJerks$Tow;", Cond.fieldLink RX5 19 "TowThatJerks" "mind" "LTowThatJerks$Tow;", Cond.classLink RX5 22 RX0, Cond.instantiable RX0 6, Cond.initialized RX0, Cond.fieldLink RX5 25 "TowThatJerks" "line" "LTowThatJerks$Line;", Cond.classLink RX5 29 RX1]
def wsL_law0_r2 : List Cond := [Cond.instantiable RX1 9, Cond.initialized RX1, Cond.fieldLink RX5 32 "TowThatJerks" "spare" "LTowThatJerks$Piece;", Cond.classLink RX5 36 RX2, Cond.instantiable RX2 3, Cond.initialized RX2, Cond.fieldLink RX5 39 "TowThatJerks" "reader" "LTowThatJerks$Reader;", Cond.classLink RX5 43 RX3, Cond.fieldLink RX5 45 "TowThatJerks" "shelves" "[LTowThatJerks$Shelf;", Cond.fieldLink RX5 49 "TowThatJerks" "imageTaken" "Z", Cond.instantiable RX3 5, Cond.initialized RX3, Cond.instanceMethod yX4_init, Cond.code yX4_init cX4_init 2 none, Cond.methodLink RX4 3 objectInit, Cond.classLink RX4 9 RX1, Cond.fieldLink RX4 11 "TowThatJerks$Tow" "pieces" "[LTowThatJerks$Piece;", Cond.fieldLink RX4 17 "TowThatJerks$Tow" "count" "I", Cond.methodLink RX4 25 ⟨"[I", "clone", "()Ljava/lang/Object;"⟩, Cond.sameMethod "[I" "java/lang/Object" "clone" "()Ljava/lang/Object;", Cond.native ⟨"java/lang/Object", "clone", "()Ljava/lang/Object;"⟩, Cond.instanceMethod ⟨"java/lang/Object", "clone", "()Ljava/lang/Object;"⟩, Cond.selects "[I" ⟨"[I", "clone", "()Ljava/lang/Object;"⟩ ⟨"java/lang/Object", "clone", "()Ljava/lang/Object;"⟩, Cond.classLink RX4 26 "[I"]
def wsL_law0_r3 : List Cond := [Cond.fieldLink RX4 30 "TowThatJerks$Tow" "settings" "[I", Cond.fieldLink RX4 33 "TowThatJerks$Tow" "angle" "I", Cond.fieldLink RX4 36 "TowThatJerks$Tow" "swing" "I", Cond.fieldLink RX4 39 "TowThatJerks$Tow" "number" "I", Cond.fieldLink RX4 42 "TowThatJerks$Tow" "jerks" "I", Cond.fieldLink RX4 45 "TowThatJerks$Tow" "parted" "I", Cond.fieldLink RX4 48 "TowThatJerks$Tow" "partingPull" "I", Cond.instanceMethod yX1_init, Cond.code yX1_init cX1_init 1 none, Cond.methodLink RX1 3 objectInit, Cond.fieldLink RX1 11 "TowThatJerks$Piece" "kind" "I", Cond.fieldLink RX1 15 "TowThatJerks$Piece" "figure" "I", Cond.fieldLink RX1 18 "TowThatJerks$Piece" "fathoms" "I", Cond.fieldLink RX1 21 "TowThatJerks$Piece" "number" "I", Cond.fieldLink RX1 24 "TowThatJerks$Piece" "hurt" "I", Cond.fieldLink RX1 27 "TowThatJerks$Piece" "heft" "I", Cond.fieldLink RX1 30 "TowThatJerks$Piece" "give" "I", Cond.fieldLink RX1 33 "TowThatJerks$Piece" "strength" "I", Cond.fieldLink RX1 36 "TowThatJerks$Piece" "wear" "I", Cond.instanceMethod yX0_init, Cond.code yX0_init cX0_init 1 none, Cond.methodLink RX0 3 objectInit, Cond.fieldLink RX0 9 "TowThatJerks$Line" "fathoms" "I", Cond.fieldLink RX0 15 "TowThatJerks$Line" "heft" "I"]
def wsL_law0_r4 : List Cond := [Cond.fieldLink RX0 18 "TowThatJerks$Line" "hundredthsOfGive" "I", Cond.fieldLink RX0 21 "TowThatJerks$Line" "height" "I", Cond.fieldLink RX0 24 "TowThatJerks$Line" "length" "I", Cond.fieldLink RX0 27 "TowThatJerks$Line" "pace" "I", Cond.instanceMethod yX2_init, Cond.code yX2_init cX2_init 1 none, Cond.methodLink RX2 3 objectInit, Cond.fieldLink RX2 9 "TowThatJerks$Reader" "place" "I", Cond.arrayClass .int, Cond.fieldLink RX2 15 "TowThatJerks$Reader" "numbers" "[I", Cond.fieldLink RX2 19 "TowThatJerks$Reader" "found" "I", Cond.instanceMethod yX3_init, Cond.code yX3_init cX3_init 1 none, Cond.methodLink RX3 3 objectInit, Cond.fieldLink RX3 11 "TowThatJerks$Shelf" "holding" "I", Cond.classLink RX3 15 RX1, Cond.fieldLink RX3 18 "TowThatJerks$Shelf" "piece" "LTowThatJerks$Piece;", Cond.fieldLink RX3 22 "TowThatJerks$Shelf" "sort" "I", Cond.fieldLink RX3 25 "TowThatJerks$Shelf" "size" "I", Cond.fieldLink RX3 28 "TowThatJerks$Shelf" "elements" "[I", Cond.methodLink RL 20 yX6_init, Cond.instanceMethod yX6_init, Cond.code yX6_init cX6_init 1 none, Cond.methodLink RX6 1 objectInit]
def wsL_law0_r5 : List Cond := [Cond.fieldLink RX6 9 "TowThatJerksModel" "s" "[I", Cond.fieldLink RX6 13 "TowThatJerksModel" "image" "[I", Cond.fieldLink RX6 16 "TowThatJerksModel" "read" "[I", Cond.fieldLink RX6 19 "TowThatJerksModel" "mind" "[I", Cond.fieldLink RX6 22 "TowThatJerksModel" "kept" "[I", Cond.fieldLink RX6 25 "TowThatJerksModel" "sort" "[I", Cond.fieldLink RX6 28 "TowThatJerksModel" "size" "[I", Cond.fieldLink RX6 31 "TowThatJerksModel" "element" "[I", Cond.fieldLink RX6 34 "TowThatJerksModel" "keptPrice" "[I", Cond.fieldLink RX6 37 "TowThatJerksModel" "keptToss" "[I", Cond.fieldLink RX6 40 "TowThatJerksModel" "numbers" "[I", Cond.methodLink RL 21 yX5_tow, Cond.instanceMethod yX5_tow, Cond.selects RX5 yX5_tow yX5_tow, Cond.code yX5_tow cX5_tow 4 (some .int), Cond.methodLink RX5 54 yX5_refusalOfBytes, Cond.instanceMethod yX5_refusalOfBytes, Cond.selects RX5 yX5_refusalOfBytes yX5_refusalOfBytes, Cond.code yX5_refusalOfBytes cX5_refusalOfBytes 3 (some .int), Cond.methodLink RX5 229 yX5_refusalOfRow, Cond.instanceMethod yX5_refusalOfRow, Cond.selects RX5 yX5_refusalOfRow yX5_refusalOfRow, Cond.code yX5_refusalOfRow cX5_refusalOfRow 2 (some .int), Cond.methodLink RX5 315 yX5_refusalOfHolding]
def wsL_law0_r6 : List Cond := [Cond.instanceMethod yX5_refusalOfHolding, Cond.selects RX5 yX5_refusalOfHolding yX5_refusalOfHolding, Cond.code yX5_refusalOfHolding cX5_refusalOfHolding 3 (some .int), Cond.methodLink RX5 250 yX5_isShelf, Cond.static yX5_isShelf, Cond.code yX5_isShelf cX5_isShelf 1 (some .boolean), Cond.methodLink RX5 129 yX5_isWithin, Cond.static yX5_isWithin, Cond.code yX5_isWithin cX5_isWithin 3 (some .boolean), Cond.instanceMethod yX4_become, Cond.selects RX4 yX4_become yX4_become, Cond.code yX4_become cX4_become 3 none, Cond.methodLink RX4 56 arraycopyName, Cond.native arraycopyName, Cond.static arraycopyName, Cond.initialized "java/lang/System", Cond.instanceMethod yX1_become, Cond.selects RX1 yX1_become yX1_become, Cond.code yX1_become cX1_become 2 none, Cond.instanceMethod yX2_read, Cond.selects RX2 yX2_read yX2_read, Cond.code yX2_read cX2_read 7 (some .int), Cond.methodLink RX2 27 yX2_scanStatement, Cond.instanceMethod yX2_scanStatement]
def wsL_law0_r7 : List Cond := [Cond.selects RX2 yX2_scanStatement yX2_scanStatement, Cond.code yX2_scanStatement cX2_scanStatement 4 (some .boolean), Cond.instanceMethod yX3_byteAt, Cond.selects RX3 yX3_byteAt yX3_byteAt, Cond.code yX3_byteAt cX3_byteAt 2 (some .int), Cond.methodLink RX3 47 yX3_hasPlace, Cond.instanceMethod yX3_hasPlace, Cond.selects RX3 yX3_hasPlace yX3_hasPlace, Cond.code yX3_hasPlace cX3_hasPlace 2 (some .boolean), Cond.methodLink RX2 53 yX2_shapeBehind, Cond.static yX2_shapeBehind, Cond.code yX2_shapeBehind cX2_shapeBehind 1 (some (.object "java/lang/String")), Cond.methodLink RX2 57 yJ0_isEmpty_aae02, Cond.instanceMethod yJ0_isEmpty_aae02, Cond.selects RJ0 yJ0_isEmpty_aae02 yJ0_isEmpty_aae02, Cond.initialized RJ0, Cond.code yJ0_isEmpty_aae02 cJ0_isEmpty_aae02 1 (some .boolean), Cond.fieldLink RJ0 9 "java/lang/String" "value" "[B", Cond.methodLink RX2 63 yJ0_length_8abf5, Cond.instanceMethod yJ0_length_8abf5, Cond.selects RJ0 yJ0_length_8abf5 yJ0_length_8abf5, Cond.code yJ0_length_8abf5 cJ0_length_8abf5 1 (some .int), Cond.methodLink RJ0 335 yJ0_coder_7d493, Cond.instanceMethod yJ0_coder_7d493]
def wsL_law0_r8 : List Cond := [Cond.selects RJ0 yJ0_coder_7d493 yJ0_coder_7d493, Cond.code yJ0_coder_7d493 cJ0_coder_7d493 1 (some .byte), Cond.fieldLink RJ0 38 "java/lang/String" "COMPACT_STRINGS" "Z", Cond.fieldLink RJ0 15 "java/lang/String" "coder" "B", Cond.methodLink RX2 67 yJ0_charAt_5068e, Cond.instanceMethod yJ0_charAt_5068e, Cond.selects RJ0 yJ0_charAt_5068e yJ0_charAt_5068e, Cond.code yJ0_charAt_5068e cJ0_charAt_5068e 2 (some .char), Cond.methodLink RJ0 492 yJ0_isLatin1_aae02, Cond.instanceMethod yJ0_isLatin1_aae02, Cond.selects RJ0 yJ0_isLatin1_aae02 yJ0_isLatin1_aae02, Cond.code yJ0_isLatin1_aae02 cJ0_isLatin1_aae02 1 (some .boolean), Cond.methodLink RJ0 495 yJ1_charAt_3b067, Cond.static yJ1_charAt_3b067, Cond.initialized RJ1, Cond.code yJ1_charAt_3b067 cJ1_charAt_3b067 2 (some .char), Cond.methodLink RJ1 9 yJ0_checkIndex_df160, Cond.static yJ0_checkIndex_df160, Cond.code yJ0_checkIndex_df160 cJ0_checkIndex_df160 2 none, Cond.fieldLink RJ0 1053 "jdk/internal/util/Preconditions" "SIOOBE_FORMATTER" "Ljava/util/function/BiFunction;", Cond.methodLink RJ0 1059 yJ3_checkIndex_8e157, Cond.static yJ3_checkIndex_8e157, Cond.initialized RJ3, Cond.code yJ3_checkIndex_8e157 cJ3_checkIndex_8e157 3 (some .int)]
def wsL_law0_r9 : List Cond := [Cond.methodLink RJ0 498 yJ2_charAt_3b067, Cond.static yJ2_charAt_3b067, Cond.initialized RJ2, Cond.code yJ2_charAt_3b067 cJ2_charAt_3b067 2 (some .char), Cond.methodLink RJ2 67 yJ2_checkIndex_2214a, Cond.static yJ2_checkIndex_2214a, Cond.code yJ2_checkIndex_2214a cJ2_checkIndex_2214a 2 none, Cond.methodLink RJ2 48 yJ2_length_9d52b, Cond.static yJ2_length_9d52b, Cond.code yJ2_length_9d52b cJ2_length_9d52b 1 (some .int), Cond.methodLink RJ2 414 yJ0_checkIndex_df160, Cond.methodLink RJ2 71 yJ2_getChar_3b067, Cond.static yJ2_getChar_3b067, Cond.code yJ2_getChar_3b067 cJ2_getChar_3b067 2 (some .char), Cond.fieldLink RJ2 44 "java/lang/StringUTF16" "$assertionsDisabled" "Z", Cond.fieldLink RJ2 59 "java/lang/StringUTF16" "HI_BYTE_SHIFT" "I", Cond.fieldLink RJ2 63 "java/lang/StringUTF16" "LO_BYTE_SHIFT" "I", Cond.methodLink RX2 71 yX2_scanPart, Cond.instanceMethod yX2_scanPart, Cond.selects RX2 yX2_scanPart yX2_scanPart, Cond.code yX2_scanPart cX2_scanPart 4 (some .boolean), Cond.methodLink RX2 75 yX2_isDigit, Cond.static yX2_isDigit, Cond.code yX2_isDigit cX2_isDigit 1 (some .boolean)]
def wsL_law0_r10 : List Cond := [Cond.methodLink RX2 79 yX2_scanNumber, Cond.instanceMethod yX2_scanNumber, Cond.selects RX2 yX2_scanNumber yX2_scanNumber, Cond.code yX2_scanNumber cX2_scanNumber 5 (some .boolean), Cond.methodLink RX2 82 yX2_take, Cond.instanceMethod yX2_take, Cond.selects RX2 yX2_take yX2_take, Cond.code yX2_take cX2_take 3 (some .boolean), Cond.methodLink RX2 35 yX2_obey, Cond.instanceMethod yX2_obey, Cond.selects RX2 yX2_obey yX2_obey, Cond.code yX2_obey cX2_obey 3 (some .boolean), Cond.instanceMethod yX4_addPiece, Cond.selects RX4 yX4_addPiece yX4_addPiece, Cond.code yX4_addPiece cX4_addPiece 4 (some .boolean), Cond.instanceMethod yX1_begin, Cond.selects RX1 yX1_begin yX1_begin, Cond.code yX1_begin cX1_begin 5 none, Cond.methodLink RX1 39 yX1_heftOf, Cond.static yX1_heftOf, Cond.code yX1_heftOf cX1_heftOf 2 (some .int), Cond.methodLink RX1 43 yX1_giveOf, Cond.static yX1_giveOf, Cond.code yX1_giveOf cX1_giveOf 2 (some .int)]
def wsL_law0_r11 : List Cond := [Cond.methodLink RX1 46 yX1_strengthOf, Cond.static yX1_strengthOf, Cond.code yX1_strengthOf cX1_strengthOf 2 (some .int), Cond.methodLink RX1 49 yX1_wearOf, Cond.static yX1_wearOf, Cond.code yX1_wearOf cX1_wearOf 2 (some .int), Cond.instanceMethod yX4_change, Cond.selects RX4 yX4_change yX4_change, Cond.code yX4_change cX4_change 3 (some .boolean), Cond.methodLink RX4 76 yX4_maySet, Cond.static yX4_maySet, Cond.code yX4_maySet cX4_maySet 2 (some .boolean), Cond.methodLink RL 25 yX6_tow, Cond.instanceMethod yX6_tow, Cond.selects RX6 yX6_tow yX6_tow, Cond.code yX6_tow cX6_tow 7 (some .int), Cond.fieldLink RX6 59 "TowThatJerksModel" "base" "I", Cond.fieldLink RX6 56 "TowThatJerksModel" "end" "I", Cond.fieldLink RX6 53 "TowThatJerksModel" "pos" "I", Cond.methodLink RX6 97 yX6_wrongRow, Cond.instanceMethod yX6_wrongRow, Cond.selects RX6 yX6_wrongRow yX6_wrongRow, Cond.code yX6_wrongRow cX6_wrongRow 3 (some .int), Cond.methodLink RX6 94 yX6_isShelf]
def wsL_law0_r12 : List Cond := [Cond.static yX6_isShelf, Cond.code yX6_isShelf cX6_isShelf 1 (some .boolean), Cond.constantLong RX6 51 (7), Cond.methodLink RX6 47 yX6_isIn, Cond.static yX6_isIn, Cond.code yX6_isIn cX6_isIn 6 (some .boolean), Cond.methodLink RX6 101 yX6_readsStatement, Cond.instanceMethod yX6_readsStatement, Cond.selects RX6 yX6_readsStatement yX6_readsStatement, Cond.code yX6_readsStatement cX6_readsStatement 3 (some .boolean), Cond.fieldLink RX6 74 "TowThatJerksModel" "told" "I", Cond.fieldLink RX6 84 "TowThatJerksModel" "isBelow" "Z", Cond.methodLink RX6 62 yX6_here, Cond.instanceMethod yX6_here, Cond.selects RX6 yX6_here yX6_here, Cond.code yX6_here cX6_here 1 (some .int), Cond.methodLink RX6 77 yX6_readsNumber, Cond.instanceMethod yX6_readsNumber, Cond.selects RX6 yX6_readsNumber yX6_readsNumber, Cond.code yX6_readsNumber cX6_readsNumber 4 (some .boolean), Cond.methodLink RX6 70 yX6_isDigit, Cond.instanceMethod yX6_isDigit, Cond.selects RX6 yX6_isDigit yX6_isDigit, Cond.code yX6_isDigit cX6_isDigit 1 (some .boolean)]
def wsL_law0_r13 : List Cond := [Cond.constantLong RX6 66 (48), Cond.constantLong RX6 68 (57), Cond.methodLink RX6 81 yX6_takes, Cond.instanceMethod yX6_takes, Cond.selects RX6 yX6_takes yX6_takes, Cond.code yX6_takes cX6_takes 2 (some .boolean), Cond.methodLink RX6 104 yX6_copies, Cond.static yX6_copies, Cond.code yX6_copies cX6_copies 3 none, Cond.methodLink RX6 108 yX6_comes, Cond.instanceMethod yX6_comes, Cond.selects RX6 yX6_comes yX6_comes, Cond.code yX6_comes cX6_comes 5 (some .boolean), Cond.constantLong RX6 88 (99), Cond.constantLong RX6 90 (4), Cond.constantLong RX6 92 (40), Cond.methodLink RL 26 yX5_piece, Cond.instanceMethod yX5_piece, Cond.selects RX5 yX5_piece yX5_piece, Cond.code yX5_piece cX5_piece 4 (some .int), Cond.instanceMethod yX4_has, Cond.selects RX4 yX4_has yX4_has, Cond.code yX4_has cX4_has 2 (some .boolean), Cond.methodLink RL 30 yX6_piece]
def wsL_law0_r14 : List Cond := [Cond.instanceMethod yX6_piece, Cond.selects RX6 yX6_piece yX6_piece, Cond.code yX6_piece cX6_piece 5 (some .int), Cond.methodLink RX6 117 yX6_isPiece, Cond.instanceMethod yX6_isPiece, Cond.selects RX6 yX6_isPiece yX6_isPiece, Cond.code yX6_isPiece cX6_isPiece 2 (some .boolean), Cond.methodLink RX6 111 yX6_get, Cond.instanceMethod yX6_get, Cond.selects RX6 yX6_get yX6_get, Cond.code yX6_get cX6_get 3 (some .int), Cond.methodLink RX6 120 yX6_heftBy, Cond.static yX6_heftBy, Cond.code yX6_heftBy cX6_heftBy 2 (some .int), Cond.methodLink RX6 123 yX6_giveBy, Cond.static yX6_giveBy, Cond.code yX6_giveBy cX6_giveBy 2 (some .int), Cond.methodLink RX6 114 yX6_strengthBy, Cond.static yX6_strengthBy, Cond.code yX6_strengthBy cX6_strengthBy 2 (some .int), Cond.methodLink RX6 126 yX6_wearBy, Cond.static yX6_wearBy, Cond.code yX6_wearBy cX6_wearBy 2 (some .int), Cond.methodLink RL 31 yX5_set]
def wsL_law0_r15 : List Cond := [Cond.instanceMethod yX5_set, Cond.selects RX5 yX5_set yX5_set, Cond.code yX5_set cX5_set 4 (some .int), Cond.methodLink RL 34 yX6_set, Cond.instanceMethod yX6_set, Cond.selects RX6 yX6_set yX6_set, Cond.code yX6_set cX6_set 4 (some .int), Cond.constantLong RX6 129 (6), Cond.methodLink RX6 131 yX6_leastOf, Cond.static yX6_leastOf, Cond.code yX6_leastOf cX6_leastOf 1 (some .int), Cond.methodLink RX6 135 yX6_mostOf, Cond.static yX6_mostOf, Cond.code yX6_mostOf cX6_mostOf 1 (some .int), Cond.methodLink RL 35 yX5_line, Cond.instanceMethod yX5_line, Cond.selects RX5 yX5_line yX5_line, Cond.code yX5_line cX5_line 2 (some .int), Cond.methodLink RX5 110 yX5_layLine, Cond.instanceMethod yX5_layLine, Cond.selects RX5 yX5_layLine yX5_layLine, Cond.code yX5_layLine cX5_layLine 2 (some .boolean), Cond.instanceMethod yX4_hasLine, Cond.selects RX4 yX4_hasLine yX4_hasLine]
def wsL_law0_r16 : List Cond := [Cond.code yX4_hasLine cX4_hasLine 1 (some .boolean), Cond.instanceMethod yX0_begin, Cond.selects RX0 yX0_begin yX0_begin, Cond.code yX0_begin cX0_begin 2 none, Cond.instanceMethod yX0_add, Cond.selects RX0 yX0_add yX0_add, Cond.code yX0_add cX0_add 3 none, Cond.instanceMethod yX0_giveOfAll, Cond.selects RX0 yX0_giveOfAll yX0_giveOfAll, Cond.code yX0_giveOfAll cX0_giveOfAll 1 (some .int), Cond.methodLink RX0 42 Lib.Math.max.name, Cond.static Lib.Math.max.name, Cond.initialized "java/lang/Math", Cond.code Lib.Math.max.name Lib.Math.max.code 2 (some .int), Cond.instanceMethod yX0_hang, Cond.selects RX0 yX0_hang yX0_hang, Cond.code yX0_hang cX0_hang 1 (some .int), Cond.instanceMethod yX0_slack, Cond.selects RX0 yX0_slack yX0_slack, Cond.code yX0_slack cX0_slack 1 (some .int), Cond.methodLink RX0 48 yX0_hang, Cond.instanceMethod yX0_base, Cond.selects RX0 yX0_base yX0_base, Cond.code yX0_base cX0_base 1 (some .int)]
def wsL_law0_r17 : List Cond := [Cond.methodLink RL 38 yX6_line, Cond.instanceMethod yX6_line, Cond.selects RX6 yX6_line yX6_line, Cond.code yX6_line cX6_line 2 (some .int), Cond.constantLong RX6 168 (5), Cond.fieldLink RX6 138 "TowThatJerksModel" "fathoms" "I", Cond.fieldLink RX6 141 "TowThatJerksModel" "heft" "I", Cond.fieldLink RX6 144 "TowThatJerksModel" "give" "I", Cond.methodLink RX6 170 yX6_isLine, Cond.instanceMethod yX6_isLine, Cond.selects RX6 yX6_isLine yX6_isLine, Cond.code yX6_isLine cX6_isLine 2 (some .boolean), Cond.methodLink RX6 173 yX6_allPieces, Cond.instanceMethod yX6_allPieces, Cond.selects RX6 yX6_allPieces yX6_allPieces, Cond.code yX6_allPieces cX6_allPieces 1 (some .int), Cond.methodLink RX6 176 yX6_sumsUp, Cond.instanceMethod yX6_sumsUp, Cond.selects RX6 yX6_sumsUp yX6_sumsUp, Cond.code yX6_sumsUp cX6_sumsUp 4 none, Cond.methodLink RX6 147 yX6_rounds, Cond.instanceMethod yX6_rounds, Cond.selects RX6 yX6_rounds yX6_rounds, Cond.code yX6_rounds cX6_rounds 1 none]
def wsL_law0_r18 : List Cond := [Cond.methodLink RX6 159 yX6_hang, Cond.instanceMethod yX6_hang, Cond.selects RX6 yX6_hang yX6_hang, Cond.code yX6_hang cX6_hang 1 (some .int), Cond.methodLink RX6 165 yX6_baseOf, Cond.instanceMethod yX6_baseOf, Cond.selects RX6 yX6_baseOf yX6_baseOf, Cond.code yX6_baseOf cX6_baseOf 1 (some .int), Cond.methodLink RL 39 yX5_apart, Cond.instanceMethod yX5_apart, Cond.selects RX5 yX5_apart yX5_apart, Cond.code yX5_apart cX5_apart 2 (some .int), Cond.instanceMethod yX0_apartAt, Cond.selects RX0 yX0_apartAt yX0_apartAt, Cond.code yX0_apartAt cX0_apartAt 2 (some .int), Cond.methodLink RX0 56 Lib.Math.abs.name, Cond.static Lib.Math.abs.name, Cond.code Lib.Math.abs.name Lib.Math.abs.code 1 (some .int), Cond.methodLink RX0 52 yX0_riseAt, Cond.instanceMethod yX0_riseAt, Cond.selects RX0 yX0_riseAt yX0_riseAt, Cond.code yX0_riseAt cX0_riseAt 5 (some .int), Cond.methodLink RL 42 yX6_apart, Cond.instanceMethod yX6_apart]
def wsL_law0_r19 : List Cond := [Cond.selects RX6 yX6_apart yX6_apart, Cond.code yX6_apart cX6_apart 2 (some .int), Cond.constantLong RX6 180 (9999), Cond.methodLink RX6 156 yX6_apartAt, Cond.instanceMethod yX6_apartAt, Cond.selects RX6 yX6_apartAt yX6_apartAt, Cond.code yX6_apartAt cX6_apartAt 3 (some .int), Cond.methodLink RX6 150 yX6_rise, Cond.instanceMethod yX6_rise, Cond.selects RX6 yX6_rise yX6_rise, Cond.code yX6_rise cX6_rise 5 (some .int), Cond.methodLink RX6 153 yX6_amount, Cond.static yX6_amount, Cond.code yX6_amount cX6_amount 1 (some .int), Cond.methodLink RL 43 yX5_pull, Cond.instanceMethod yX5_pull, Cond.selects RX5 yX5_pull yX5_pull, Cond.code yX5_pull cX5_pull 2 (some .int), Cond.instanceMethod yX0_pullAt, Cond.selects RX0 yX0_pullAt yX0_pullAt, Cond.code yX0_pullAt cX0_pullAt 2 (some .int), Cond.methodLink RX0 71 yX0_overAt, Cond.instanceMethod yX0_overAt, Cond.selects RX0 yX0_overAt yX0_overAt]
def wsL_law0_r20 : List Cond := [Cond.code yX0_overAt cX0_overAt 2 (some .int), Cond.methodLink RX0 59 yX0_apartAt, Cond.methodLink RX0 62 yX0_slack, Cond.methodLink RX0 74 yX0_pullOver, Cond.instanceMethod yX0_pullOver, Cond.selects RX0 yX0_pullOver yX0_pullOver, Cond.code yX0_pullOver cX0_pullOver 2 (some .int), Cond.methodLink RX0 65 yX0_base, Cond.methodLink RX0 68 yX0_giveOfAll, Cond.methodLink RL 46 yX6_pull, Cond.instanceMethod yX6_pull, Cond.selects RX6 yX6_pull yX6_pull, Cond.code yX6_pull cX6_pull 2 (some .int), Cond.methodLink RX6 182 yX6_pullAt, Cond.instanceMethod yX6_pullAt, Cond.selects RX6 yX6_pullAt yX6_pullAt, Cond.code yX6_pullAt cX6_pullAt 4 (some .int), Cond.fieldLink RX6 162 "TowThatJerksModel" "isJerk" "Z", Cond.methodLink RL 47 yX5_tenth, Cond.instanceMethod yX5_tenth, Cond.selects RX5 yX5_tenth yX5_tenth, Cond.code yX5_tenth cX5_tenth 1 (some .int), Cond.instanceMethod yX4_passTenth, Cond.selects RX4 yX4_passTenth yX4_passTenth]
def wsL_law0_r21 : List Cond := [Cond.code yX4_passTenth cX4_passTenth 4 (some .int), Cond.methodLink RX4 89 yX4_firstWeakerThan, Cond.instanceMethod yX4_firstWeakerThan, Cond.selects RX4 yX4_firstWeakerThan yX4_firstWeakerThan, Cond.code yX4_firstWeakerThan cX4_firstWeakerThan 3 (some .int), Cond.methodLink RX4 92 yX4_hurtPieces, Cond.instanceMethod yX4_hurtPieces, Cond.selects RX4 yX4_hurtPieces yX4_hurtPieces, Cond.code yX4_hurtPieces cX4_hurtPieces 2 none, Cond.instanceMethod yX1_bear, Cond.selects RX1 yX1_bear yX1_bear, Cond.code yX1_bear cX1_bear 1 none, Cond.methodLink RX1 56 Lib.Math.min.name, Cond.static Lib.Math.min.name, Cond.code Lib.Math.min.name Lib.Math.min.code 2 (some .int), Cond.methodLink RL 51 yX6_tenth, Cond.instanceMethod yX6_tenth, Cond.selects RX6 yX6_tenth yX6_tenth, Cond.code yX6_tenth cX6_tenth 1 (some .int), Cond.methodLink RX6 195 yX6_goesTenth, Cond.instanceMethod yX6_goesTenth, Cond.selects RX6 yX6_goesTenth yX6_goesTenth, Cond.code yX6_goesTenth cX6_goesTenth 6 (some .int), Cond.fieldLink RX6 185 "TowThatJerksModel" "partedAt" "I"]
def wsL_law0_r22 : List Cond := [Cond.methodLink RX6 188 yX6_strengthOf, Cond.instanceMethod yX6_strengthOf, Cond.selects RX6 yX6_strengthOf yX6_strengthOf, Cond.code yX6_strengthOf cX6_strengthOf 2 (some .int), Cond.methodLink RX6 191 yX6_puts, Cond.instanceMethod yX6_puts, Cond.selects RX6 yX6_puts yX6_puts, Cond.code yX6_puts cX6_puts 4 none, Cond.methodLink RL 52 yX5_greatest, Cond.instanceMethod yX5_greatest, Cond.selects RX5 yX5_greatest yX5_greatest, Cond.code yX5_greatest cX5_greatest 2 (some .int), Cond.instanceMethod yX0_greatestPull, Cond.selects RX0 yX0_greatestPull yX0_greatestPull, Cond.code yX0_greatestPull cX0_greatestPull 3 (some .int), Cond.instanceMethod yX0_whenGreatest, Cond.selects RX0 yX0_whenGreatest yX0_whenGreatest, Cond.code yX0_whenGreatest cX0_whenGreatest 3 (some .int), Cond.methodLink RX0 77 yX0_greatestPull, Cond.methodLink RX0 80 yX0_pullAt, Cond.methodLink RL 55 yX6_greatest, Cond.instanceMethod yX6_greatest, Cond.selects RX6 yX6_greatest yX6_greatest, Cond.code yX6_greatest cX6_greatest 3 (some .int)]
def wsL_law0_r23 : List Cond := [Cond.fieldLink RX6 198 "TowThatJerksModel" "greatestAt" "I", Cond.methodLink RX6 201 yX6_greatestOf, Cond.instanceMethod yX6_greatestOf, Cond.selects RX6 yX6_greatestOf yX6_greatestOf, Cond.code yX6_greatestOf cX6_greatestOf 4 (some .int), Cond.methodLink RL 56 yX5_holds, Cond.instanceMethod yX5_holds, Cond.selects RX5 yX5_holds yX5_holds, Cond.code yX5_holds cX5_holds 4 (some .int), Cond.methodLink RX5 149 yX5_partsWithin, Cond.instanceMethod yX5_partsWithin, Cond.selects RX5 yX5_partsWithin yX5_partsWithin, Cond.code yX5_partsWithin cX5_partsWithin 3 (some .int), Cond.methodLink RL 59 yX6_holds, Cond.instanceMethod yX6_holds, Cond.selects RX6 yX6_holds yX6_holds, Cond.code yX6_holds cX6_holds 4 (some .int), Cond.constantLong RX6 204 (400), Cond.constantLong RX6 206 (2), Cond.methodLink RX6 208 yX6_partsIn, Cond.instanceMethod yX6_partsIn, Cond.selects RX6 yX6_partsIn yX6_partsIn, Cond.code yX6_partsIn cX6_partsIn 5 (some .int), Cond.methodLink RL 60 yX5_fastest]
def wsL_law0_r24 : List Cond := [Cond.instanceMethod yX5_fastest, Cond.selects RX5 yX5_fastest yX5_fastest, Cond.code yX5_fastest cX5_fastest 3 (some .int), Cond.fieldLink RX5 152 "TowThatJerks" "MOST_SET" "[I", Cond.methodLink RL 63 yX6_fastest, Cond.instanceMethod yX6_fastest, Cond.selects RX6 yX6_fastest yX6_fastest, Cond.code yX6_fastest cX6_fastest 5 (some .int), Cond.methodLink RL 64 yX5_longer, Cond.instanceMethod yX5_longer, Cond.selects RX5 yX5_longer yX5_longer, Cond.code yX5_longer cX5_longer 4 (some .int), Cond.methodLink RL 67 yX6_longer, Cond.instanceMethod yX6_longer, Cond.selects RX6 yX6_longer yX6_longer, Cond.code yX6_longer cX6_longer 6 (some .int), Cond.methodLink RL 68 yX5_stock, Cond.instanceMethod yX5_stock, Cond.selects RX5 yX5_stock yX5_stock, Cond.code yX5_stock cX5_stock 7 (some .int), Cond.methodLink RX5 165 yX5_layStock, Cond.instanceMethod yX5_layStock, Cond.selects RX5 yX5_layStock yX5_layStock, Cond.code yX5_layStock cX5_layStock 3 (some .boolean)]
def wsL_law0_r25 : List Cond := [Cond.methodLink RL 71 yX6_stock, Cond.instanceMethod yX6_stock, Cond.selects RX6 yX6_stock yX6_stock, Cond.code yX6_stock cX6_stock 8 (some .int), Cond.constantLong RX6 211 (999), Cond.methodLink RL 72 yX5_bridge, Cond.instanceMethod yX5_bridge, Cond.selects RX5 yX5_bridge yX5_bridge, Cond.code yX5_bridge cX5_bridge 4 (some .int), Cond.constant RX5 168 (-1000000001), Cond.constant RX5 169 (-1000000003), Cond.methodLink RL 75 yX6_bridge, Cond.instanceMethod yX6_bridge, Cond.selects RX6 yX6_bridge yX6_bridge, Cond.code yX6_bridge cX6_bridge 6 (some .int), Cond.constant RX6 213 (-1000000001), Cond.constant RX6 214 (-1000000003), Cond.methodLink RL 76 yX5_fouls, Cond.instanceMethod yX5_fouls, Cond.selects RX5 yX5_fouls yX5_fouls, Cond.code yX5_fouls cX5_fouls 1 (some .int), Cond.methodLink RL 79 yX6_fouls, Cond.instanceMethod yX6_fouls, Cond.selects RX6 yX6_fouls yX6_fouls]
def wsL_law0_r26 : List Cond := [Cond.code yX6_fouls cX6_fouls 1 (some .int), Cond.methodLink RX6 215 yX6_isFoul, Cond.instanceMethod yX6_isFoul, Cond.selects RX6 yX6_isFoul yX6_isFoul, Cond.code yX6_isFoul cX6_isFoul 1 (some .boolean), Cond.methodLink RL 80 yX5_takeIn, Cond.instanceMethod yX5_takeIn, Cond.selects RX5 yX5_takeIn yX5_takeIn, Cond.code yX5_takeIn cX5_takeIn 6 (some .int), Cond.methodLink RX5 174 yX5_fewestTakenIn, Cond.instanceMethod yX5_fewestTakenIn, Cond.selects RX5 yX5_fewestTakenIn yX5_fewestTakenIn, Cond.code yX5_fewestTakenIn cX5_fewestTakenIn 6 (some .int), Cond.methodLink RL 83 yX6_takeIn, Cond.instanceMethod yX6_takeIn, Cond.selects RX6 yX6_takeIn yX6_takeIn, Cond.code yX6_takeIn cX6_takeIn 7 (some .int), Cond.methodLink RL 84 yX5_shallowest, Cond.instanceMethod yX5_shallowest, Cond.selects RX5 yX5_shallowest yX5_shallowest, Cond.code yX5_shallowest cX5_shallowest 3 (some .int), Cond.fieldLink RX5 178 "TowThatJerks" "LEAST_SET" "[I", Cond.methodLink RX5 181 Lib.Math.max.name, Cond.methodLink RL 87 yX6_shallowest]
def wsL_law0_r27 : List Cond := [Cond.instanceMethod yX6_shallowest, Cond.selects RX6 yX6_shallowest yX6_shallowest, Cond.code yX6_shallowest cX6_shallowest 2 (some .int), Cond.methodLink RL 88 yX5_odds, Cond.instanceMethod yX5_odds, Cond.selects RX5 yX5_odds yX5_odds, Cond.code yX5_odds cX5_odds 5 (some .int), Cond.methodLink RX5 187 yX5_holdsByDraws, Cond.instanceMethod yX5_holdsByDraws, Cond.selects RX5 yX5_holdsByDraws yX5_holdsByDraws, Cond.code yX5_holdsByDraws cX5_holdsByDraws 5 (some .boolean), Cond.constant RX5 323 (1103515245), Cond.constant RX5 324 (2147483647), Cond.constant RX5 325 (65536), Cond.methodLink RX5 225 yX5_heldWithin, Cond.static yX5_heldWithin, Cond.code yX5_heldWithin cX5_heldWithin 3 (some .int), Cond.methodLink RX5 312 Lib.Math.min.name, Cond.methodLink RL 91 yX6_odds, Cond.instanceMethod yX6_odds, Cond.selects RX6 yX6_odds yX6_odds, Cond.code yX6_odds cX6_odds 10 (some .int), Cond.constantLong RX6 218 (20), Cond.constant RX6 220 (1103515245)]
def wsL_law0_r28 : List Cond := [Cond.constant RX6 221 (2147483647), Cond.constant RX6 222 (65536), Cond.methodLink RL 92 yX5_yaw, Cond.instanceMethod yX5_yaw, Cond.selects RX5 yX5_yaw yX5_yaw, Cond.code yX5_yaw cX5_yaw 2 (some .int), Cond.methodLink RL 95 yX6_yaw, Cond.instanceMethod yX6_yaw, Cond.selects RX6 yX6_yaw yX6_yaw, Cond.code yX6_yaw cX6_yaw 2 (some .int), Cond.methodLink RL 96 yX5_yaws, Cond.instanceMethod yX5_yaws, Cond.selects RX5 yX5_yaws yX5_yaws, Cond.code yX5_yaws cX5_yaws 2 (some .int), Cond.instanceMethod yX4_greatestYaw, Cond.selects RX4 yX4_greatestYaw yX4_greatestYaw, Cond.code yX4_greatestYaw cX4_greatestYaw 4 (some .int), Cond.methodLink RX4 117 Lib.Math.abs.name, Cond.methodLink RX4 104 Lib.Math.max.name, Cond.methodLink RX4 114 yX4_passYaw, Cond.instanceMethod yX4_passYaw, Cond.selects RX4 yX4_passYaw yX4_passYaw, Cond.code yX4_passYaw cX4_passYaw 5 none, Cond.methodLink RL 99 yX6_yaws]
def wsL_law0_r29 : List Cond := [Cond.instanceMethod yX6_yaws, Cond.selects RX6 yX6_yaws yX6_yaws, Cond.code yX6_yaws cX6_yaws 3 (some .int), Cond.methodLink RX6 226 yX6_goesYaw, Cond.instanceMethod yX6_goesYaw, Cond.selects RX6 yX6_goesYaw yX6_goesYaw, Cond.code yX6_goesYaw cX6_goesYaw 3 none, Cond.methodLink RX6 223 yX6_within, Cond.static yX6_within, Cond.code yX6_within cX6_within 2 (some .int), Cond.methodLink RL 100 yX5_swings, Cond.instanceMethod yX5_swings, Cond.selects RX5 yX5_swings yX5_swings, Cond.code yX5_swings cX5_swings 4 (some .int), Cond.methodLink RL 103 yX6_swings, Cond.instanceMethod yX6_swings, Cond.selects RX6 yX6_swings yX6_swings, Cond.code yX6_swings cX6_swings 5 (some .int), Cond.methodLink RL 104 yX5_grows, Cond.instanceMethod yX5_grows, Cond.selects RX5 yX5_grows yX5_grows, Cond.code yX5_grows cX5_grows 1 (some .int), Cond.methodLink RX5 199 yX5_growsWith, Cond.instanceMethod yX5_growsWith]
def wsL_law0_r30 : List Cond := [Cond.selects RX5 yX5_growsWith yX5_growsWith, Cond.code yX5_growsWith cX5_growsWith 4 (some .boolean), Cond.methodLink RL 107 yX6_grows, Cond.instanceMethod yX6_grows, Cond.selects RX6 yX6_grows yX6_grows, Cond.code yX6_grows cX6_grows 1 (some .int), Cond.methodLink RX6 229 yX6_isGrowing, Cond.instanceMethod yX6_isGrowing, Cond.selects RX6 yX6_isGrowing yX6_isGrowing, Cond.code yX6_isGrowing cX6_isGrowing 5 (some .boolean), Cond.methodLink RL 108 yX5_held, Cond.instanceMethod yX5_held, Cond.selects RX5 yX5_held yX5_held, Cond.code yX5_held cX5_held 2 (some .int), Cond.methodLink RL 111 yX6_held, Cond.instanceMethod yX6_held, Cond.selects RX6 yX6_held yX6_held, Cond.code yX6_held cX6_held 4 (some .int), Cond.methodLink RL 112 yX5_whip, Cond.instanceMethod yX5_whip, Cond.selects RX5 yX5_whip yX5_whip, Cond.code yX5_whip cX5_whip 3 (some .int), Cond.methodLink RL 115 yX6_whip, Cond.instanceMethod yX6_whip]
def wsL_law0_r31 : List Cond := [Cond.selects RX6 yX6_whip yX6_whip, Cond.code yX6_whip cX6_whip 2 (some .int), Cond.methodLink RL 116 yX5_renders, Cond.instanceMethod yX5_renders, Cond.selects RX5 yX5_renders yX5_renders, Cond.code yX5_renders cX5_renders 2 (some .int), Cond.instanceMethod yX0_pullsAbove, Cond.selects RX0 yX0_pullsAbove yX0_pullsAbove, Cond.code yX0_pullsAbove cX0_pullsAbove 4 (some .int), Cond.methodLink RL 119 yX6_renders, Cond.instanceMethod yX6_renders, Cond.selects RX6 yX6_renders yX6_renders, Cond.code yX6_renders cX6_renders 2 (some .int), Cond.methodLink RX6 232 yX6_above, Cond.instanceMethod yX6_above, Cond.selects RX6 yX6_above yX6_above, Cond.code yX6_above cX6_above 4 (some .int), Cond.methodLink RL 120 yX5_winch, Cond.instanceMethod yX5_winch, Cond.selects RX5 yX5_winch yX5_winch, Cond.code yX5_winch cX5_winch 5 (some .int), Cond.methodLink RL 123 yX6_winch, Cond.instanceMethod yX6_winch, Cond.selects RX6 yX6_winch yX6_winch]
def wsL_law0_r32 : List Cond := [Cond.code yX6_winch cX6_winch 3 (some .int), Cond.methodLink RL 124 yX5_legs, Cond.instanceMethod yX5_legs, Cond.selects RX5 yX5_legs yX5_legs, Cond.code yX5_legs cX5_legs 5 (some .int), Cond.instanceMethod yX3_holdsLegs, Cond.selects RX3 yX3_holdsLegs yX3_holdsLegs, Cond.code yX3_holdsLegs cX3_holdsLegs 2 (some .boolean), Cond.methodLink RX5 211 yX5_greatestOfLegs, Cond.instanceMethod yX5_greatestOfLegs, Cond.selects RX5 yX5_greatestOfLegs yX5_greatestOfLegs, Cond.code yX5_greatestOfLegs cX5_greatestOfLegs 5 (some .int), Cond.instanceMethod yX3_legsHeld, Cond.selects RX3 yX3_legsHeld yX3_legsHeld, Cond.code yX3_legsHeld cX3_legsHeld 1 (some .int), Cond.methodLink RX5 215 yX5_hoursOfLegs, Cond.static yX5_hoursOfLegs, Cond.code yX5_hoursOfLegs cX5_hoursOfLegs 3 (some .int), Cond.methodLink RX5 219 yX5_legToSlow, Cond.instanceMethod yX5_legToSlow, Cond.selects RX5 yX5_legToSlow yX5_legToSlow, Cond.code yX5_legToSlow cX5_legToSlow 6 (some .int), Cond.methodLink RL 127 yX6_legs, Cond.instanceMethod yX6_legs]
def wsL_law0_r33 : List Cond := [Cond.selects RX6 yX6_legs yX6_legs, Cond.code yX6_legs cX6_legs 9 (some .int), Cond.methodLink RX6 242 yX6_wrongLegs, Cond.instanceMethod yX6_wrongLegs, Cond.selects RX6 yX6_wrongLegs yX6_wrongLegs, Cond.code yX6_wrongLegs cX6_wrongLegs 5 (some .int), Cond.constantLong RX6 235 (60), Cond.constantLong RX6 237 (9), Cond.methodLink RX6 245 yX6_greatestLegs, Cond.instanceMethod yX6_greatestLegs, Cond.selects RX6 yX6_greatestLegs yX6_greatestLegs, Cond.code yX6_greatestLegs cX6_greatestLegs 7 (some .int), Cond.methodLink RX6 239 yX6_greatestBy, Cond.instanceMethod yX6_greatestBy, Cond.selects RX6 yX6_greatestBy yX6_greatestBy, Cond.code yX6_greatestBy cX6_greatestBy 6 (some .int), Cond.methodLink RL 128 yX5_why, Cond.instanceMethod yX5_why, Cond.selects RX5 yX5_why yX5_why, Cond.code yX5_why cX5_why 3 (some .int), Cond.methodLink RL 131 yX6_why, Cond.instanceMethod yX6_why, Cond.selects RX6 yX6_why yX6_why, Cond.code yX6_why cX6_why 2 (some .int)]
def wsL_law0_r34 : List Cond := [Cond.methodLink RL 132 yX5_caravan, Cond.instanceMethod yX5_caravan, Cond.selects RX5 yX5_caravan yX5_caravan, Cond.code yX5_caravan cX5_caravan 4 (some .int), Cond.methodLink RL 135 yX6_caravan, Cond.instanceMethod yX6_caravan, Cond.selects RX6 yX6_caravan yX6_caravan, Cond.code yX6_caravan cX6_caravan 4 (some .int), Cond.methodLink RL 136 yX5_judge, Cond.instanceMethod yX5_judge, Cond.selects RX5 yX5_judge yX5_judge, Cond.code yX5_judge cX5_judge 7 (some .int), Cond.instanceMethod yX3_leastOfSort, Cond.selects RX3 yX3_leastOfSort yX3_leastOfSort, Cond.code yX3_leastOfSort cX3_leastOfSort 1 (some .int), Cond.constant RX3 46 (-2147483648), Cond.methodLink RL 139 yX6_judge, Cond.instanceMethod yX6_judge, Cond.selects RX6 yX6_judge yX6_judge, Cond.code yX6_judge cX6_judge 5 (some .int), Cond.methodLink RX6 249 yX6_leastNumber, Cond.instanceMethod yX6_leastNumber, Cond.selects RX6 yX6_leastNumber yX6_leastNumber, Cond.code yX6_leastNumber cX6_leastNumber 2 (some .int)]
def wsL_law0_r35 : List Cond := [Cond.constant RX6 248 (-2147483648), Cond.methodLink RL 140 yX5_image, Cond.instanceMethod yX5_image, Cond.selects RX5 yX5_image yX5_image, Cond.code yX5_image cX5_image 1 (some .int), Cond.methodLink RL 143 yX6_image, Cond.instanceMethod yX6_image, Cond.selects RX6 yX6_image yX6_image, Cond.code yX6_image cX6_image 1 (some .int), Cond.fieldLink RX6 252 "TowThatJerksModel" "hasImage" "Z", Cond.methodLink RL 144 yX5_restore, Cond.instanceMethod yX5_restore, Cond.selects RX5 yX5_restore yX5_restore, Cond.code yX5_restore cX5_restore 1 (some .int), Cond.methodLink RL 147 yX6_restore, Cond.instanceMethod yX6_restore, Cond.selects RX6 yX6_restore yX6_restore, Cond.code yX6_restore cX6_restore 1 (some .int), Cond.methodLink RL 148 yX5_count, Cond.instanceMethod yX5_count, Cond.selects RX5 yX5_count yX5_count, Cond.code yX5_count cX5_count 2 (some .int), Cond.instanceMethod yX4_hurtOfAll, Cond.selects RX4 yX4_hurtOfAll yX4_hurtOfAll]
def wsL_law0_r36 : List Cond := [Cond.code yX4_hurtOfAll cX4_hurtOfAll 3 (some .int), Cond.methodLink RL 151 yX6_count, Cond.instanceMethod yX6_count, Cond.selects RX6 yX6_count yX6_count, Cond.code yX6_count cX6_count 4 (some .int), Cond.methodLink RL 152 yX5_keep, Cond.instanceMethod yX5_keep, Cond.selects RX5 yX5_keep yX5_keep, Cond.code yX5_keep cX5_keep 4 (some .int), Cond.instanceMethod yX3_empty, Cond.selects RX3 yX3_empty yX3_empty, Cond.code yX3_empty cX3_empty 1 none, Cond.instanceMethod yX3_keepPiece, Cond.selects RX3 yX3_keepPiece yX3_keepPiece, Cond.code yX3_keepPiece cX3_keepPiece 2 none, Cond.methodLink RL 156 yX6_keep, Cond.instanceMethod yX6_keep, Cond.selects RX6 yX6_keep yX6_keep, Cond.code yX6_keep cX6_keep 5 (some .int), Cond.methodLink RX6 255 yX6_priceOf, Cond.instanceMethod yX6_priceOf, Cond.selects RX6 yX6_priceOf yX6_priceOf, Cond.code yX6_priceOf cX6_priceOf 4 (some .int), Cond.methodLink RL 157 yX5_row]
def wsL_law0_r37 : List Cond := [Cond.instanceMethod yX5_row, Cond.selects RX5 yX5_row yX5_row, Cond.code yX5_row cX5_row 4 (some .int), Cond.instanceMethod yX3_beginRow, Cond.selects RX3 yX3_beginRow yX3_beginRow, Cond.code yX3_beginRow cX3_beginRow 3 none, Cond.methodLink RX3 36 yJ7_fill_53178, Cond.static yJ7_fill_53178, Cond.initialized RJ7, Cond.code yJ7_fill_53178 cJ7_fill_53178 4 none, Cond.methodLink RL 160 yX6_row, Cond.instanceMethod yX6_row, Cond.selects RX6 yX6_row yX6_row, Cond.code yX6_row cX6_row 5 (some .int), Cond.methodLink RL 161 yX5_put, Cond.instanceMethod yX5_put, Cond.selects RX5 yX5_put yX5_put, Cond.code yX5_put cX5_put 5 (some .int), Cond.instanceMethod yX3_putLowestBits, Cond.selects RX3 yX3_putLowestBits yX3_putLowestBits, Cond.code yX3_putLowestBits cX3_putLowestBits 3 none, Cond.methodLink RL 164 yX6_put, Cond.instanceMethod yX6_put, Cond.selects RX6 yX6_put yX6_put]
def wsL_law0_r38 : List Cond := [Cond.code yX6_put cX6_put 5 (some .int), Cond.methodLink RL 165 yL_element, Cond.static yL_element, Cond.initialized RL, Cond.codeWith yL_element cL_element 5 (some .int) [(0, 9, 12, 13), (0, 9, 16, 15)], Cond.classLink RL 13 "java/lang/IllegalArgumentException", Cond.classLink RL 15 "java/lang/IllegalStateException", Cond.methodLink RL 7 yX5_element, Cond.instanceMethod yX5_element, Cond.selects RX5 yX5_element yX5_element, Cond.code yX5_element cX5_element 3 (some .long), Cond.classLink RX5 270 "java/lang/IllegalArgumentException", Cond.initialized "java/lang/IllegalArgumentException", Cond.classLink RX5 277 "java/lang/IllegalStateException", Cond.initialized "java/lang/IllegalStateException", Cond.methodLink RL 170 yX6_element, Cond.instanceMethod yX6_element, Cond.selects RX6 yX6_element yX6_element, Cond.code yX6_element cX6_element 3 (some .long), Cond.fieldLink RX6 43 "TowThatJerksModel" "thrown" "I", Cond.methodLink RL 171 yX6_thrown, Cond.instanceMethod yX6_thrown, Cond.selects RX6 yX6_thrown yX6_thrown, Cond.code yX6_thrown cX6_thrown 1 (some .int)]
def wsL_law0_r39 : List Cond := [Cond.methodLink RL 174 yX5_copy, Cond.instanceMethod yX5_copy, Cond.selects RX5 yX5_copy yX5_copy, Cond.code yX5_copy cX5_copy 8 (some .int), Cond.methodLink RX5 291 arraycopyName, Cond.instanceMethod yX3_hasPlaces, Cond.selects RX3 yX3_hasPlaces yX3_hasPlaces, Cond.code yX3_hasPlaces cX3_hasPlaces 3 (some .boolean), Cond.methodLink RL 178 yX6_copy, Cond.instanceMethod yX6_copy, Cond.selects RX6 yX6_copy yX6_copy, Cond.code yX6_copy cX6_copy 8 (some .int), Cond.methodLink RL 179 yX5_price, Cond.instanceMethod yX5_price, Cond.selects RX5 yX5_price yX5_price, Cond.code yX5_price cX5_price 3 (some .int), Cond.methodLink RX5 297 yX5_refusalOfPiece, Cond.instanceMethod yX5_refusalOfPiece, Cond.selects RX5 yX5_refusalOfPiece yX5_refusalOfPiece, Cond.code yX5_refusalOfPiece cX5_refusalOfPiece 2 (some .int), Cond.instanceMethod yX1_cost, Cond.selects RX1 yX1_cost yX1_cost, Cond.code yX1_cost cX1_cost 1 (some .int), Cond.methodLink RX1 52 yX1_costOf]
def wsL_law0_r40 : List Cond := [Cond.static yX1_costOf, Cond.code yX1_costOf cX1_costOf 3 (some .int), Cond.methodLink RL 182 yX6_price, Cond.instanceMethod yX6_price, Cond.selects RX6 yX6_price yX6_price, Cond.code yX6_price cX6_price 3 (some .int), Cond.methodLink RX6 258 yX6_wrongKept, Cond.instanceMethod yX6_wrongKept, Cond.selects RX6 yX6_wrongKept yX6_wrongKept, Cond.code yX6_wrongKept cX6_wrongKept 2 (some .int), Cond.methodLink RL 183 yX5_toss, Cond.instanceMethod yX5_toss, Cond.selects RX5 yX5_toss yX5_toss, Cond.codeWith yX5_toss cX5_toss 5 (some .int) [(22, 26, 29, 277)], Cond.instanceMethod yX1_fail, Cond.selects RX1 yX1_fail yX1_fail, Cond.code yX1_fail cX1_fail 1 none, Cond.classLink RX1 61 "java/lang/IllegalStateException", Cond.instanceMethod yX1_numberOfFailure, Cond.selects RX1 yX1_numberOfFailure yX1_numberOfFailure, Cond.code yX1_numberOfFailure cX1_numberOfFailure 1 (some .int), Cond.methodLink RL 186 yX6_toss, Cond.instanceMethod yX6_toss, Cond.selects RX6 yX6_toss yX6_toss]
def wsL_law0_r41 : List Cond := [Cond.code yX6_toss cX6_toss 3 (some .int)]
def wsL_law0 : List Cond := (wsL_law0_r1 ++ (wsL_law0_r2 ++ (wsL_law0_r3 ++ (wsL_law0_r4 ++ (wsL_law0_r5 ++ (wsL_law0_r6 ++ (wsL_law0_r7 ++ (wsL_law0_r8 ++ (wsL_law0_r9 ++ (wsL_law0_r10 ++ (wsL_law0_r11 ++ (wsL_law0_r12 ++ (wsL_law0_r13 ++ (wsL_law0_r14 ++ (wsL_law0_r15 ++ (wsL_law0_r16 ++ (wsL_law0_r17 ++ (wsL_law0_r18 ++ (wsL_law0_r19 ++ (wsL_law0_r20 ++ (wsL_law0_r21 ++ (wsL_law0_r22 ++ (wsL_law0_r23 ++ (wsL_law0_r24 ++ (wsL_law0_r25 ++ (wsL_law0_r26 ++ (wsL_law0_r27 ++ (wsL_law0_r28 ++ (wsL_law0_r29 ++ (wsL_law0_r30 ++ (wsL_law0_r31 ++ (wsL_law0_r32 ++ (wsL_law0_r33 ++ (wsL_law0_r34 ++ (wsL_law0_r35 ++ (wsL_law0_r36 ++ (wsL_law0_r37 ++ (wsL_law0_r38 ++ (wsL_law0_r39 ++ (wsL_law0_r40 ++ wsL_law0_r41)))))))))))))))))))))))))))))))))))))))) ++ wsX50 ++ wsX60 ++ wsX40 ++ wsX00 ++ wsX10 ++ wsX20 ++ wsX30 ++ ([] : List Cond)
def wsL_law : List Cond := wsL_law0 ++ (vx_atS RX5 274 "java/lang/IllegalArgumentException" ["java/lang/RuntimeException", "java/lang/Exception"]).filter goodWord ++ (vx_atS RX5 281 "java/lang/IllegalStateException" ["java/lang/RuntimeException", "java/lang/Exception"]).filter goodWord ++ (vx_atS RX1 65 "java/lang/IllegalStateException" ["java/lang/RuntimeException", "java/lang/Exception"]).filter goodWord
theorem inlX0 : ∀ w ∈ wsX00, w ∈ wsL_law := fun _ h => List.mem_append_left _ (List.mem_append_left _ (List.mem_append_left _ (List.mem_append_left _ (List.mem_append_left _ (List.mem_append_left _ (List.mem_append_left _ (List.mem_append_right _ h)))))))
theorem inlX1 : ∀ w ∈ wsX10, w ∈ wsL_law := fun _ h => List.mem_append_left _ (List.mem_append_left _ (List.mem_append_left _ (List.mem_append_left _ (List.mem_append_left _ (List.mem_append_left _ (List.mem_append_right _ h))))))
theorem inlX2 : ∀ w ∈ wsX20, w ∈ wsL_law := fun _ h => List.mem_append_left _ (List.mem_append_left _ (List.mem_append_left _ (List.mem_append_left _ (List.mem_append_left _ (List.mem_append_right _ h)))))
theorem inlX3 : ∀ w ∈ wsX30, w ∈ wsL_law := fun _ h => List.mem_append_left _ (List.mem_append_left _ (List.mem_append_left _ (List.mem_append_left _ (List.mem_append_right _ h))))
theorem inlX4 : ∀ w ∈ wsX40, w ∈ wsL_law := fun _ h => List.mem_append_left _ (List.mem_append_left _ (List.mem_append_left _ (List.mem_append_left _ (List.mem_append_left _ (List.mem_append_left _ (List.mem_append_left _ (List.mem_append_left _ (List.mem_append_right _ h))))))))
theorem inlX5 : ∀ w ∈ wsX50, w ∈ wsL_law := fun _ h => List.mem_append_left _ (List.mem_append_left _ (List.mem_append_left _ (List.mem_append_left _ (List.mem_append_left _ (List.mem_append_left _ (List.mem_append_left _ (List.mem_append_left _ (List.mem_append_left _ (List.mem_append_left _ (List.mem_append_right _ h))))))))))
theorem inlX6 : ∀ w ∈ wsX60, w ∈ wsL_law := fun _ h => List.mem_append_left _ (List.mem_append_left _ (List.mem_append_left _ (List.mem_append_left _ (List.mem_append_left _ (List.mem_append_left _ (List.mem_append_left _ (List.mem_append_left _ (List.mem_append_left _ (List.mem_append_right _ h)))))))))
theorem inJx145de : ∀ w ∈ wsJx145de0, w ∈ lw_tbl := by decide +kernel
theorem inJx9f9b0 : ∀ w ∈ wsJx9f9b00, w ∈ lw_tbl := by decide +kernel
theorem inJx8e188 : ∀ w ∈ wsJx8e1880, w ∈ lw_tbl := by decide +kernel
theorem inJxb160c : ∀ w ∈ wsJxb160c0, w ∈ lw_tbl := by decide +kernel
theorem inJ9 : ∀ w ∈ wsJ90, w ∈ lw_tbl := by decide +kernel
theorem inJ0 : ∀ w ∈ wsJ00, w ∈ lw_tbl := by decide +kernel
theorem inJ1 : ∀ w ∈ wsJ10, w ∈ lw_tbl := by decide +kernel
theorem inJ2 : ∀ w ∈ wsJ20, w ∈ lw_tbl := by decide +kernel
theorem inJ10 : ∀ w ∈ wsJ100, w ∈ lw_tbl := by decide +kernel
theorem inJxfd54e : ∀ w ∈ wsJxfd54e0, w ∈ lw_tbl := by decide +kernel
theorem inJx3cf43 : ∀ w ∈ wsJx3cf430, w ∈ lw_tbl := by decide +kernel
theorem inJ7 : ∀ w ∈ wsJ70, w ∈ lw_tbl := by decide +kernel
theorem inJ3 : ∀ w ∈ wsJ30, w ∈ lw_tbl := by decide +kernel
abbrev vwCl : List vw_C := [(RX0, TX0, 6), (RX1, TX1, 9), (RX2, TX2, 3), (RX3, TX3, 5), (RX4, TX4, 9), (RX5, TX5, 8), (RX6, TX6, 24)]
end
section
/-! THE POOL: 69 cells that the two systems are made of, by numbers; their ints by number and place -/
abbrev Mem : Type := Nat → Nat → Int32
abbrev GG : Type := va_G × (ClassId × ClassId × ClassId) × (Nat → Nat) × (Nat → Nat) × (Nat → Nat) × Nat × Nat × Nat
abbrev gD (G : GG) : va_G := G.1
abbrev gI (G : GG) : ClassId := G.2.1.1
abbrev gP (G : GG) : ClassId := G.2.1.2.1
abbrev gS (G : GG) : ClassId := G.2.1.2.2
abbrev ga (G : GG) : Nat → Nat := G.2.2.1
abbrev gK (G : GG) : Nat → Nat := G.2.2.2.1
abbrev gV (G : GG) : Nat → Nat := G.2.2.2.2.1
abbrev gz (G : GG) : Nat := G.2.2.2.2.2.1
abbrev gL (G : GG) : Nat := G.2.2.2.2.2.2.1
abbrev gM (G : GG) : Nat := G.2.2.2.2.2.2.2
def lenA (i : Nat) : Nat := if i < 62 then 54 else if i < 65 then 8 else if i < 66 then 800 else if i < 68 then 8 else 3
def pE (G : GG) (r : Nat → Int32) (i : Nat) : va_E :=
  if i < 1 then .inr (5, [.ref (ga G 1), .ref (ga G 2), .ref (ga G 3), .ref (ga G 4), .ref (ga G 56), .ref (ga G 5), .ref (ga G 6), .int (r 7)])
  else if i < 4 then .inr (4, [.ref (ga G (7 + i)), .int (r 1), .ref (ga G (10 + i)), .int (r 3), .int (r 4), .int (r 5), .int (r 6), .int (r 7), .int (r 8)])
  else if i < 5 then .inr (0, [.int (r 0), .int (r 1), .int (r 2), .int (r 3), .int (r 4), .int (r 5)])
  else if i < 6 then .inr (2, [.int (r 0), .ref (ga G 7), .int (r 2)])
  else if i < 7 then .inl (gS G, 8, .inr (.inr (.inr (.inr (fun k => some (ga G (14 + k)))))))
  else if i < 8 then .inl (gI G, 3, .inl r)
  else if i < 11 then .inl (gP G, 6, .inr (.inr (.inr (.inr (fun k => some (ga G (6 * i + k - 10)))))))
  else if i < 14 then .inl (gI G, 7, .inl r)
  else if i < 22 then .inr (3, [.int (r 0), .ref (ga G (16 + i)), .int (r 2), .int (r 3), .ref (ga G (8 + i))])
  else if i < 30 then .inl (gI G, 100, .inl r)
  else if i < 57 then .inr (1, [.int (r 0), .int (r 1), .int (r 2), .int (r 3), .int (r 4), .int (r 5), .int (r 6), .int (r 7), .int (r 8)])
  else if i < 58 then .inr (6, [.ref (ga G 58), .ref (ga G 59), .ref (ga G 60), .ref (ga G 61), .ref (ga G 62), .ref (ga G 63), .ref (ga G 64), .ref (ga G 65), .ref (ga G 66), .ref (ga G 67), .int (r 10), .int (r 11), .int (r 12), .int (r 13), .int (r 14), .int (r 15), .int (r 16), .ref (ga G 68), .int (r 18), .int (r 19), .int (r 20), .int (r 21), .int (r 22), .int (r 23)])
  else .inl (gI G, lenA i, .inl r)
theorem pE_5 {G : GG} {r : Nat → Int32} : pE G r 0 = .inr (5, [.ref (ga G 1), .ref (ga G 2), .ref (ga G 3), .ref (ga G 4), .ref (ga G 56), .ref (ga G 5), .ref (ga G 6), .int (r 7)]) := rfl
theorem pE_4 {G : GG} {r : Nat → Int32} {i : Nat} (h : 1 ≤ i ∧ i < 4) : pE G r i = .inr (4, [.ref (ga G (7 + i)), .int (r 1), .ref (ga G (10 + i)), .int (r 3), .int (r 4), .int (r 5), .int (r 6), .int (r 7), .int (r 8)]) := by
  rw [pE, if_neg (by omega), if_pos (by omega)]
theorem pE_0 {G : GG} {r : Nat → Int32} : pE G r 4 = .inr (0, [.int (r 0), .int (r 1), .int (r 2), .int (r 3), .int (r 4), .int (r 5)]) := rfl
theorem pE_2 {G : GG} {r : Nat → Int32} : pE G r 5 = .inr (2, [.int (r 0), .ref (ga G 7), .int (r 2)]) := rfl
theorem pE_sh {G : GG} {r : Nat → Int32} : pE G r 6 = .inl (gS G, 8, .inr (.inr (.inr (.inr (fun k => some (ga G (14 + k))))))) := rfl
theorem pE_nu {G : GG} {r : Nat → Int32} : pE G r 7 = .inl (gI G, 3, .inl r) := rfl
theorem pE_ps {G : GG} {r : Nat → Int32} {i : Nat} (h : 8 ≤ i ∧ i < 11) : pE G r i = .inl (gP G, 6, .inr (.inr (.inr (.inr (fun k => some (ga G (6 * i + k - 10))))))) := by
  rw [pE, if_neg (by omega), if_neg (by omega), if_neg (by omega), if_neg (by omega), if_neg (by omega), if_neg (by omega), if_pos (by omega)]
theorem pE_st {G : GG} {r : Nat → Int32} {i : Nat} (h : 11 ≤ i ∧ i < 14) : pE G r i = .inl (gI G, 7, .inl r) := by
  rw [pE, if_neg (by omega), if_neg (by omega), if_neg (by omega), if_neg (by omega), if_neg (by omega), if_neg (by omega), if_neg (by omega), if_pos (by omega)]
theorem pE_3 {G : GG} {r : Nat → Int32} {i : Nat} (h : 14 ≤ i ∧ i < 22) : pE G r i = .inr (3, [.int (r 0), .ref (ga G (16 + i)), .int (r 2), .int (r 3), .ref (ga G (8 + i))]) := by
  rw [pE, if_neg (by omega), if_neg (by omega), if_neg (by omega), if_neg (by omega), if_neg (by omega), if_neg (by omega), if_neg (by omega), if_neg (by omega), if_pos (by omega)]
theorem pE_el {G : GG} {r : Nat → Int32} {i : Nat} (h : 22 ≤ i ∧ i < 30) : pE G r i = .inl (gI G, 100, .inl r) := by
  rw [pE, if_neg (by omega), if_neg (by omega), if_neg (by omega), if_neg (by omega), if_neg (by omega), if_neg (by omega), if_neg (by omega), if_neg (by omega), if_neg (by omega), if_pos (by omega)]
theorem pE_1 {G : GG} {r : Nat → Int32} {i : Nat} (h : 30 ≤ i ∧ i < 57) : pE G r i = .inr (1, [.int (r 0), .int (r 1), .int (r 2), .int (r 3), .int (r 4), .int (r 5), .int (r 6), .int (r 7), .int (r 8)]) := by
  rw [pE, if_neg (by omega), if_neg (by omega), if_neg (by omega), if_neg (by omega), if_neg (by omega), if_neg (by omega), if_neg (by omega), if_neg (by omega), if_neg (by omega), if_neg (by omega), if_pos (by omega)]
theorem pE_6 {G : GG} {r : Nat → Int32} : pE G r 57 = .inr (6, [.ref (ga G 58), .ref (ga G 59), .ref (ga G 60), .ref (ga G 61), .ref (ga G 62), .ref (ga G 63), .ref (ga G 64), .ref (ga G 65), .ref (ga G 66), .ref (ga G 67), .int (r 10), .int (r 11), .int (r 12), .int (r 13), .int (r 14), .int (r 15), .int (r 16), .ref (ga G 68), .int (r 18), .int (r 19), .int (r 20), .int (r 21), .int (r 22), .int (r 23)]) := rfl
theorem pE_ar {G : GG} {r : Nat → Int32} {i : Nat} (h : 58 ≤ i ∧ i < 69) : pE G r i = .inl (gI G, lenA i, .inl r) := by
  rw [pE, if_neg (by omega), if_neg (by omega), if_neg (by omega), if_neg (by omega), if_neg (by omega), if_neg (by omega), if_neg (by omega), if_neg (by omega), if_neg (by omega), if_neg (by omega), if_neg (by omega), if_neg (by omega)]
def wl (G : GG) (M : Mem) : va_W := (List.range 69).map (fun i => (ga G i, pE G (M i) i))
def mup (M : Mem) (i k : Nat) (v : Int32) : Mem := va_up M i (upd (M i) k v)
theorem mup_at (M : Mem) (i k : Nat) (v : Int32) : mup M i k v i = upd (M i) k v := va_up_self _ _ _
theorem mup_ne (M : Mem) {i j : Nat} (k : Nat) (v : Int32) (h : j ≠ i) : mup M i k v j = M j := va_up_ne _ _ h
theorem mup_eq (M : Mem) (i k : Nat) (v : Int32) (j q : Nat) : mup M i k v j q = if j = i ∧ q = k then v else M j q := by
  by_cases h : j = i
  · subst h; rw [mup_at]; unfold upd; by_cases h2 : q = k <;> simp [h2]
  · rw [mup_ne _ _ _ h]; simp [h]
theorem wl_get {G : GG} {M : Mem} {i : Nat} (h : i < 69) {e : va_E} (he : pE G (M i) i = e) : (wl G M)[i]? = some (ga G i, e) := by
  subst he
  rw [wl, List.getElem?_map, List.getElem?_range h]
  rfl
theorem wl_set {G : GG} {M : Mem} {i : Nat} (h : i < 69) {r : Nat → Int32} {e : va_E} (he : pE G r i = e) : (wl G M).set i (ga G i, e) = wl G (va_up M i r) := by
  subst he
  apply List.ext_getElem?
  intro j
  rw [List.getElem?_set]
  by_cases hj : i = j
  · subst hj
    rw [if_pos rfl, if_pos (by simp [wl, h]), wl_get h rfl, va_up_self]
  · rw [if_neg hj]
    by_cases h9 : j < 69
    · rw [wl_get h9 rfl, wl_get h9 rfl, va_up_ne _ _ (Ne.symm hj)]
    · rw [List.getElem?_eq_none (by simp [wl]; omega), List.getElem?_eq_none (by simp [wl]; omega)]
/-- the addresses are apart, and all new -/
def Ag (G : GG) : Prop := (∀ i j, i < 69 → j < 69 → ga G i = ga G j → i = j) ∧ ∀ i, i < 69 → gz G ≤ ga G i
def Af (G : GG) (sz : Nat) : Nat → Prop := fun q => (∃ i, i < 69 ∧ q = ga G i) ∨ sz ≤ q
def Zf (G : GG) : Nat → Prop := fun q => gz G ≤ q
theorem Af_Zf {G : GG} {sz : Nat} (hG : Ag G) (hz : gz G ≤ sz) : ∀ q, Af G sz q → Zf G q := by
  intro q h
  rcases h with ⟨i, hi, rfl⟩ | h
  · exact hG.2 i hi
  · exact Nat.le_trans hz h
theorem wl_inv {G : GG} {M : Mem} {i : Nat} {q : Nat × va_E} (h : (wl G M)[i]? = some q) : i < 69 ∧ q = (ga G i, pE G (M i) i) := by
  by_cases h9 : i < 69
  · rw [wl_get h9 rfl] at h
    exact ⟨h9, (Option.some.inj h).symm⟩
  · rw [List.getElem?_eq_none (by simp [wl]; omega)] at h
    cases h
theorem wl_D {G : GG} {M : Mem} {sz : Nat} (hG : Ag G) : va_D (Af G sz) (wl G M) := by
  refine ⟨fun i j p q hp hq e => ?_, fun k q hk => ?_⟩
  · obtain ⟨h1, rfl⟩ := wl_inv hp
    obtain ⟨h2, rfl⟩ := wl_inv hq
    exact hG.1 i j h1 h2 e
  · obtain ⟨h1, rfl⟩ := wl_inv hk
    exact Or.inl ⟨k, h1, rfl⟩
abbrev tyA (G : GG) : List (ClassId × FieldType) := [(gI G, .int), (gP G, .object RX1), (gS G, .object RX3)]
def leastT (j : Nat) : Int32 := ([0, 4, 0, 1, 0, 0, 0] : List Int32).getD j 0
def mostT (j : Nat) : Int32 := ([60, 40, 9, 999, 9, 9, 9] : List Int32).getD j 0
def sIdx (i : Nat) : Nat := 39 + 2 * i
def sTx (i : Nat) : String := (["DDN;", "N N;", "D;", "N;", "DDD;", "SN;", ""] : List String).getD i ""
def sByt : List (List Int32) := [[68, 68, 78, 59], [78, 32, 78, 59], [68, 59], [78, 59], [68, 68, 68, 59], [83, 78, 59], []]
def sLen : List Nat := [4, 4, 2, 2, 4, 3, 0]
def nestA_0 : List Cond := [.fieldLinkNest RX4 21 RX5 "FIRST_SET" "[I" RX5, .fieldLinkNest RX5 74 RX1 "kind" "I" RX5, .fieldLinkNest RX5 81 RX1 "figure" "I" RX5, .fieldLinkNest RX5 78 RX1 "fathoms" "I" RX5, .fieldLinkNest RX5 96 RX1 "hurt" "I" RX5, .fieldLinkNest RX4 98 RX1 "hurt" "I" RX5, .fieldLinkNest RX0 36 RX1 "heft" "I" RX5, .fieldLinkNest RX5 84 RX1 "heft" "I" RX5, .fieldLinkNest RX0 39 RX1 "give" "I" RX5, .fieldLinkNest RX5 87 RX1 "give" "I" RX5, .fieldLinkNest RX5 90 RX1 "strength" "I" RX5, .fieldLinkNest RX4 95 RX1 "strength" "I" RX5, .fieldLinkNest RX5 93 RX1 "wear" "I" RX5, .fieldLinkNest RX5 70 RX4 "pieces" "[LTowThatJerks$Piece;" RX5, .fieldLinkNest RX5 162 RX4 "count" "I" RX5, .fieldLinkNest RX0 30 RX4 "settings" "[I" RX5, .fieldLinkNest RX5 106 RX4 "settings" "[I" RX5, .fieldLinkNest RX2 98 RX4 "angle" "I" RX5, .fieldLinkNest RX5 190 RX4 "angle" "I" RX5, .fieldLinkNest RX5 193 RX4 "swing" "I" RX5, .fieldLinkNest RX5 241 RX4 "number" "I" RX5, .fieldLinkNest RX5 244 RX4 "jerks" "I" RX5, .fieldLinkNest RX5 99 RX4 "parted" "I" RX5]
def nestA_1 : List Cond := [.fieldLinkNest RX5 222 RX4 "partingPull" "I" RX5, .fieldLinkNest RX5 114 RX0 "fathoms" "I" RX5, .fieldLinkNest RX5 115 RX0 "heft" "I" RX5, .fieldLinkNest RX5 326 RX0 "height" "I" RX5, .fieldLinkNest RX5 205 RX0 "length" "I" RX5, .fieldLinkNest RX5 155 RX0 "pace" "I" RX5, .fieldLinkNest RX5 282 RX3 "holding" "I" RX5, .fieldLinkNest RX5 300 RX3 "piece" "LTowThatJerks$Piece;" RX5, .fieldLinkNest RX5 285 RX3 "sort" "I" RX5, .fieldLinkNest RX2 22 RX3 "size" "I" RX5, .fieldLinkNest RX5 235 RX3 "size" "I" RX5, .fieldLinkNest RX5 238 RX3 "elements" "[I" RX5, .fieldLinkNest RX4 70 RX5 "LEAST_SET" "[I" RX5, .fieldLinkNest RX4 73 RX5 "MOST_SET" "[I" RX5, .methodLinkNest RX5 9 yX4_init RX5, .methodLinkNest RX4 51 yX1_init RX5, .methodLinkNest RX5 24 yX0_init RX5, .methodLinkNest RX5 31 yX1_init RX5, .methodLinkNest RX5 38 yX2_init RX5, .methodLinkNest RX5 53 yX3_init RX5, .methodLinkNest RX3 17 yX1_init RX5, .methodLinkNest RX5 58 yX4_become RX5, .methodLinkNest RX4 52 yX1_become RX5]
def nestA_2 : List Cond := [.methodLinkNest RX5 62 yX2_read RX5, .methodLinkNest RX2 31 yX3_byteAt RX5, .methodLinkNest RX2 86 yX5_isWithin RX5, .methodLinkNest RX2 90 yX4_addPiece RX5, .methodLinkNest RX4 62 yX5_isWithin RX5, .methodLinkNest RX4 66 yX1_begin RX5, .methodLinkNest RX2 95 yX4_change RX5, .methodLinkNest RX5 66 yX4_has RX5, .methodLinkNest RX5 102 yX4_maySet RX5, .methodLinkNest RX5 318 yX4_hasLine RX5, .methodLinkNest RX5 321 yX0_begin RX5, .methodLinkNest RX5 158 yX0_add RX5, .methodLinkNest RX5 116 yX0_giveOfAll RX5, .methodLinkNest RX5 120 yX0_hang RX5, .methodLinkNest RX5 123 yX0_slack RX5, .methodLinkNest RX5 126 yX0_base RX5, .methodLinkNest RX5 133 yX0_apartAt RX5, .methodLinkNest RX5 136 yX0_pullAt RX5, .methodLinkNest RX5 139 yX4_passTenth RX5, .methodLinkNest RX4 80 yX0_overAt RX5, .methodLinkNest RX4 86 yX0_pullOver RX5, .methodLinkNest RX4 101 yX1_bear RX5, .methodLinkNest RX5 143 yX0_greatestPull RX5]
def nestA_3 : List Cond := [.methodLinkNest RX5 146 yX0_whenGreatest RX5, .methodLinkNest RX5 170 yX1_begin RX5, .methodLinkNest RX5 196 yX4_greatestYaw RX5, .methodLinkNest RX4 110 yX5_heldWithin RX5, .methodLinkNest RX5 202 yX0_pullsAbove RX5, .methodLinkNest RX5 208 yX3_holdsLegs RX5, .methodLinkNest RX3 42 yX5_isWithin RX5, .methodLinkNest RX3 51 yX4_maySet RX5, .methodLinkNest RX5 329 yX3_legsHeld RX5, .methodLinkNest RX5 232 yX3_leastOfSort RX5, .methodLinkNest RX5 247 yX4_hurtOfAll RX5, .methodLinkNest RX5 253 yX3_empty RX5, .methodLinkNest RX5 256 yX3_keepPiece RX5, .methodLinkNest RX3 32 yX1_become RX5, .methodLinkNest RX5 260 yX3_beginRow RX5, .methodLinkNest RX5 264 yX3_hasPlace RX5, .methodLinkNest RX5 267 yX3_putLowestBits RX5, .methodLinkNest RX5 288 yX3_hasPlaces RX5, .methodLinkNest RX5 303 yX1_cost RX5, .methodLinkNest RX5 306 yX1_fail RX5, .methodLinkNest RX5 309 yX1_numberOfFailure RX5]
def nestA : List Cond := nestA_0 ++ (nestA_1 ++ (nestA_2 ++ (nestA_3)))
def isNest : Cond → Bool
  | .fieldLinkNest .. => true
  | .methodLinkNest .. => true
  | _ => false
theorem nestA_ok : nestA.all isNest = true := by decide +kernel
theorem nest_warm {w : Cond} (hw : isNest w = true) {s U : State} (hW : s.WarmedH U.vm) (h : va_Nw w s) : va_Nw w U := by
  cases w <;> first | exact va_Nw.warmF hW h | exact va_Nw.warmM hW h | (simp [isNest] at hw; done)
theorem nest_same {w : Cond} (hw : isNest w = true) {u U : State} (hv : u.vm = U.vm) (h : va_Nw w u) : va_Nw w U := by
  cases w <;> first | exact va_Nw.same rfl hv h | (simp [isNest] at hw; done)
def Est (G : GG) (U : State) (H : Heap) : Prop :=
  va_Z RX5 "LEAST_SET" "[I" (.ref (gL G)) (Zf G) U H ∧ va_Z RX5 "MOST_SET" "[I" (.ref (gM G)) (Zf G) U H ∧ va_T .int (gL G) 7 (fun j => .int (leastT j)) (Zf G) U H ∧ va_T .int (gM G) 7 (fun j => .int (mostT j)) (Zf G) U H ∧ va_Z "java/lang/String" "COMPACT_STRINGS" "Z" (.int 1) (Zf G) U H ∧ vk_S 7 sLen sByt (gK G) (gV G) (Zf G) U H
theorem Est.moved {G : GG} {u U : State} {H : Heap} (hvm : u.vm.Alike U.vm) (h : Est G u H) : Est G U H :=
  ⟨h.1.moved hvm, h.2.1.moved hvm, h.2.2.1.moved hvm, h.2.2.2.1.moved hvm, h.2.2.2.2.1.moved hvm, h.2.2.2.2.2.moved hvm⟩
theorem Est.kept {G : GG} {U : State} {H H1 : Heap} (h : Est G U H) (hq : ∀ a : Nat, a < H.size → ¬ Zf G a → H1[a]? = H[a]?) : Est G U H1 :=
  ⟨h.1.kept hq, h.2.1.kept hq, h.2.2.1.kept hq, h.2.2.2.1.kept hq, h.2.2.2.2.1.kept hq, h.2.2.2.2.2.kept hq⟩
def Esr (G : GG) (U : State) : Prop := ∀ i, i < 7 → vk_R RX2 (sIdx i) (sTx i) (gK G i) U
/-- what is known of the tables, of statics and of constants wherever a method begins -/
def Ec (G : GG) (U : State) : Prop := va_K (gD G) vwCl (tyA G) U ∧ (∀ w ∈ nestA, va_Nw w U) ∧ gz G ≤ U.heap.size ∧ Est G U U.heap ∧ Esr G U
theorem Ec.warm {G : GG} {s U : State} {H : Heap} {locs : List Loc} (hG : Ag G) (h : Ec G s) (hS : va_S (Af G s.heap.size) s.heap H locs) (hU : U.heap = H) (hW : s.WarmedH U.vm) : Ec G U := by
  obtain ⟨h1, h2, h3, h4, h5⟩ := h
  refine ⟨va_K.moved hW.alike h1, fun w hw => nest_warm (List.all_eq_true.mp nestA_ok w hw) hW (h2 w hw), ?_, ?_, fun i hi => (h5 i hi).warm hW⟩
  · rw [hU]; exact Nat.le_trans h3 hS.1
  · rw [hU]
    exact (h4.kept (fun a ha hz => hS.2.1 a ha (fun z => hz (Af_Zf hG h3 a z)))).moved hW.alike
theorem Ec.call {G : GG} {U : State} {g : JFrame} {mk : MethodId} {a : Array Value} (h : Ec G U) : Ec G (U.calling g mk a) := by
  obtain ⟨h1, h2, h3, h4, h5⟩ := h
  exact ⟨va_K.moved (u := U) (Vm.Alike.refl U.vm) h1, fun w hw => nest_same (List.all_eq_true.mp nestA_ok w hw) (u := U) rfl (h2 w hw), h3, h4.moved (u := U) (Vm.Alike.refl U.vm), fun i hi => (h5 i hi).same rfl⟩
def Pw (G : GG) (sz : Nat) (M : Mem) : State → Prop := fun U => U.heap.size = sz ∧ Ec G U ∧ va_P (gD G) vwCl (wl G M) U.heap
def Qw (G : GG) : Mem → State → Prop := fun M t => va_P (gD G) vwCl (wl G M) t.heap
def Wd (G : GG) (s : State) (M : Mem) (H : Heap) (locs : List Loc) : Prop := va_P (gD G) vwCl (wl G M) H ∧ va_S (Af G s.heap.size) s.heap H locs
def Cx (G : GG) (p : Program) (s : State) (m : MethodId) (args : Array Value) (meth : Method) (c : Code) (own : String) (cc : ByteArray) (nL : Nat) (ret : Option FieldType) : Prop :=
  CallFix p m c cc nL s args wsL_law own ∧ Ec G s ∧ Ag G ∧ meth.sig.returnType = ret ∧ meth.locks = false
def rmk (d : Nat) : Room := { frames := d, cells := 0, slots := 0, locals := 64 * d }
set_option maxRecDepth 20000 in
theorem goodA : wsL_law.all goodWord = true := by decide +kernel
theorem good_y {y : MethodName} {b : ByteArray} {n : Nat} {ret : Option FieldType} (h : Cond.code y b n ret ∈ wsL_law) : GoodIn wsL_law (Cond.code y b n ret :: wsL_law) := fun w hw => by
  have hm : w ∈ wsL_law := (List.mem_cons.mp hw).elim (fun e => e ▸ h) id
  exact ⟨hm, good_of_word (List.all_eq_true.mp goodA w hm)⟩
theorem bz_nar {v : Int32} (h : v = 0 ∨ v = 1) : narrow .boolean (.int v) = .int v := by rcases h with rfl | rfl <;> rfl
theorem bz_fit {v : Int32} (h : v = 0 ∨ v = 1) : fits .boolean (.int v) = true := by rcases h with rfl | rfl <;> rfl
theorem in_lt {x : Int32} {n : Nat} (h : vp_in x n) : x.toNatClampNeg < n := Nat.not_le.mp fun q => h (Or.inr q)
section POOL
variable {p : Program} {l : Launch} {e : Env} {R : Room} {s : State} {m : MethodId} {args : Array Value} {below : List Frame} {meth : Method} {c : Code} {H : Heap} {locs : List Loc} {cells slots : Nat} {Q : State → Prop}
variable {cc : ByteArray} {pc nL : Nat} {ls : Array Slot} {rest : List Value} {G : GG} {M : Mem} {own : String} {ret : Option FieldType}
theorem Cx.ws (C : Cx G p s m args meth c own cc nL ret) {w : Cond} (h : w ∈ wsL_law) : w.before args s = true := C.1.2.2.2.2 w h
theorem Cx.ml (C : Cx G p s m args meth c own cc nL ret) {l0 : List (Nat × Value)} (hl : lv_has ls nL l0) : c.maxLocals = ls.size := by rw [C.1.2.2.1]; exact hl.1.symm
theorem Wd.ml (w : Wd G s M H locs) : s.heap.size ≤ H.size := w.2.1
theorem pw_get (C : Cx G p s m args meth c own cc nL ret) (w : Wd G s M H locs) {C0 : String} {T : u_T} {N ci index : Nat} (hin : ∀ w ∈ u_ws C0 T N, w ∈ wsL_law) {i : Nat} (hi : i < 69) {fs : List Value} (he : pE G (M i) i = .inr (ci, fs)) (hc : vwCl[ci]? = some (C0, T, N)) (k : Nat) (hk : k < N) (hs : (T k).1 = C0) (hlink : Cond.fieldLink own index C0 (T k).2.1 (T k).2.2.1 ∈ wsL_law) {v : Value} (hv : fs[k]? = some v) (hdg : decode cc pc = .ok (.getfield index, 3))
    (kk : W p l e R s m args below meth c H locs cells slots Q (F0 m (pc + 3) ls (v :: rest))) : W p l e R s m args below meth c H locs cells slots Q (F0 m pc ls (.ref (ga G i) :: rest)) :=
  va_get C.1.1 C.1.2.1 C.1.2.2.2.2 hin C.1.2.2.2.1 C.2.1.1 w.1 i (wl_get hi he) hc k hk (C.ws hlink) (fun x h => by rw [hs] at h; exact h) hv hdg kk
theorem pw_getN (C : Cx G p s m args meth c own cc nL ret) (w : Wd G s M H locs) {C0 : String} {T : u_T} {N ci index : Nat} (hin : ∀ w ∈ u_ws C0 T N, w ∈ wsL_law) {i : Nat} (hi : i < 69) {fs : List Value} (he : pE G (M i) i = .inr (ci, fs)) (hc : vwCl[ci]? = some (C0, T, N)) (k : Nat) (hk : k < N) (hs : (T k).1 = C0) (hlink : Cond.fieldLinkNest own index C0 (T k).2.1 (T k).2.2.1 RX5 ∈ nestA) {v : Value} (hv : fs[k]? = some v) (hdg : decode cc pc = .ok (.getfield index, 3))
    (kk : W p l e R s m args below meth c H locs cells slots Q (F0 m (pc + 3) ls (v :: rest))) : W p l e R s m args below meth c H locs cells slots Q (F0 m pc ls (.ref (ga G i) :: rest)) :=
  va_getN C.1.1 C.1.2.1 C.1.2.2.2.2 hin C.1.2.2.2.1 C.2.1.1 w.1 i (wl_get hi he) hc k hk (va_Nw.use rfl (C.2.1.2.1 _ hlink)) (fun x h => by rw [hs] at h; exact h) hv hdg kk
theorem pw_put (C : Cx G p s m args meth c own cc nL ret) (w : Wd G s M H locs) {C0 : String} {T : u_T} {N ci index : Nat} (hin : ∀ w ∈ u_ws C0 T N, w ∈ wsL_law) (ty0 : Nat → FieldType) (hty : ∀ k, k < N → parseFieldDescriptor (T k).2.2.1 = some (ty0 k)) (hnm : ∀ a, a < N → ∀ b, b < N → a ≠ b → (T a).2.1 ≠ (T b).2.1) {i : Nat} (hi : i < 69) {fs : List Value} (he : pE G (M i) i = .inr (ci, fs)) (hc : vwCl[ci]? = some (C0, T, N)) (k : Nat) (hk : k < N) (hs : (T k).1 = C0) (hlink : Cond.fieldLink own index C0 (T k).2.1 (T k).2.2.1 ∈ wsL_law) (hfin : (T k).2.2.2 = false) {ty : FieldType} {v : Int32} (hd : parseFieldDescriptor (T k).2.2.1 = some ty) (hn : narrow ty (.int v) = .int v) (hfit : fits ty (.int v) = true) (hl : k < fs.length) (he2 : pE G (upd (M i) k v) i = .inr (ci, fs.set k (.int v)))
    (hdg : decode cc pc = .ok (.putfield index, 3)) (kk : ∀ (H1 : Heap) (locs1 : List Loc), Wd G s (mup M i k v) H1 locs1 → W p l e R s m args below meth c H1 locs1 cells slots Q (F0 m (pc + 3) ls rest)) : W p l e R s m args below meth c H locs cells slots Q (F0 m pc ls (.int v :: .ref (ga G i) :: rest)) := by
  refine va_put C.1.1 C.1.2.1 C.1.2.2.2.2 hin ty0 hty hnm C.1.2.2.2.1 C.2.1.1 w.1 (wl_D (sz := s.heap.size) C.2.2.1) w.2 i (wl_get hi he) hc k hk (C.ws hlink) (fun x h => by rw [hs] at h; exact h) hfin hd hn hfit hl hdg (fun H1 locs1 hP hD hS => kk H1 locs1 ⟨?_, hS⟩)
  rw [wl_set hi he2] at hP
  exact hP
theorem pw_putN (C : Cx G p s m args meth c own cc nL ret) (w : Wd G s M H locs) {C0 : String} {T : u_T} {N ci index : Nat} (hin : ∀ w ∈ u_ws C0 T N, w ∈ wsL_law) (ty0 : Nat → FieldType) (hty : ∀ k, k < N → parseFieldDescriptor (T k).2.2.1 = some (ty0 k)) (hnm : ∀ a, a < N → ∀ b, b < N → a ≠ b → (T a).2.1 ≠ (T b).2.1) {i : Nat} (hi : i < 69) {fs : List Value} (he : pE G (M i) i = .inr (ci, fs)) (hc : vwCl[ci]? = some (C0, T, N)) (k : Nat) (hk : k < N) (hs : (T k).1 = C0) (hlink : Cond.fieldLinkNest own index C0 (T k).2.1 (T k).2.2.1 RX5 ∈ nestA) (hfin : (T k).2.2.2 = false) {ty : FieldType} {v : Int32} (hd : parseFieldDescriptor (T k).2.2.1 = some ty) (hn : narrow ty (.int v) = .int v) (hfit : fits ty (.int v) = true) (hl : k < fs.length) (he2 : pE G (upd (M i) k v) i = .inr (ci, fs.set k (.int v)))
    (hdg : decode cc pc = .ok (.putfield index, 3)) (kk : ∀ (H1 : Heap) (locs1 : List Loc), Wd G s (mup M i k v) H1 locs1 → W p l e R s m args below meth c H1 locs1 cells slots Q (F0 m (pc + 3) ls rest)) : W p l e R s m args below meth c H locs cells slots Q (F0 m pc ls (.int v :: .ref (ga G i) :: rest)) := by
  refine va_putN C.1.1 C.1.2.1 C.1.2.2.2.2 hin ty0 hty hnm C.1.2.2.2.1 C.2.1.1 w.1 (wl_D (sz := s.heap.size) C.2.2.1) w.2 i (wl_get hi he) hc k hk (va_Nw.use rfl (C.2.1.2.1 _ hlink)) (fun x h => by rw [hs] at h; exact h) hfin hd hn hfit hl hdg (fun H1 locs1 hP hD hS => kk H1 locs1 ⟨?_, hS⟩)
  rw [wl_set hi he2] at hP
  exact hP
theorem pw_ld (C : Cx G p s m args meth c own cc nL ret) (w : Wd G s M H locs) {i n : Nat} (hi : i < 69) (he : pE G (M i) i = .inl (gI G, n, .inl (M i))) {x : Int32} (hin : vp_in x n) (hdg : decode cc pc = .ok (.iaload, 1))
    (kk : W p l e R s m args below meth c H locs cells slots Q (F0 m (pc + 1) ls (.int (M i x.toNatClampNeg) :: rest))) : W p l e R s m args below meth c H locs cells slots Q (F0 m pc ls (.int x :: .ref (ga G i) :: rest)) :=
  va_iald C.1.1 C.1.2.1 C.2.1.1 w.1 i 0 (wl_get hi he) rfl hin hdg kk
theorem pw_st (C : Cx G p s m args meth c own cc nL ret) (w : Wd G s M H locs) {i n : Nat} (hi : i < 69) (he : ∀ r, pE G r i = .inl (gI G, n, .inl r)) {x v : Int32} (hin : vp_in x n) (hdg : decode cc pc = .ok (.iastore, 1))
    (kk : ∀ (H1 : Heap) (locs1 : List Loc), Wd G s (mup M i x.toNatClampNeg v) H1 locs1 → W p l e R s m args below meth c H1 locs1 cells slots Q (F0 m (pc + 1) ls rest)) : W p l e R s m args below meth c H locs cells slots Q (F0 m pc ls (.int v :: .int x :: .ref (ga G i) :: rest)) := by
  refine va_iast C.1.1 C.1.2.1 C.2.1.1 w.1 (wl_D (sz := s.heap.size) C.2.2.1) w.2 i 0 (wl_get hi (he _)) rfl hin hdg (fun H1 locs1 hP hD hS => kk H1 locs1 ⟨?_, hS⟩)
  rw [wl_set hi (he _)] at hP
  exact hP
theorem pw_len (C : Cx G p s m args meth c own cc nL ret) (w : Wd G s M H locs) {i n : Nat} (hi : i < 69) {f : Nat → Int32} (he : pE G (M i) i = .inl (gI G, n, .inl f)) {v : Int32} (hv : Int32.ofNat n = v) (hdg : decode cc pc = .ok (.arraylength, 1))
    (kk : W p l e R s m args below meth c H locs cells slots Q (F0 m (pc + 1) ls (.int v :: rest))) : W p l e R s m args below meth c H locs cells slots Q (F0 m pc ls (.ref (ga G i) :: rest)) :=
  va_alen C.1.1 C.1.2.1 C.2.1.1 w.1 i 0 (wl_get hi he) (ty := .int) rfl hv hdg kk
theorem pw_ldS (C : Cx G p s m args meth c own cc nL ret) (w : Wd G s M H locs) {x : Int32} (hin : vp_in x 8) (hdg : decode cc pc = .ok (.aaload, 1))
    (kk : W p l e R s m args below meth c H locs cells slots Q (F0 m (pc + 1) ls (.ref (ga G (14 + x.toNatClampNeg)) :: rest))) : W p l e R s m args below meth c H locs cells slots Q (F0 m pc ls (.int x :: .ref (ga G 6) :: rest)) :=
  va_aldq C.1.1 C.1.2.1 C.2.1.1 w.1 6 2 (wl_get (by decide) pE_sh) rfl hin hdg kk
theorem pw_ldP (C : Cx G p s m args meth c own cc nL ret) (w : Wd G s M H locs) {i : Nat} (hi : 8 ≤ i ∧ i < 11) {x : Int32} (hin : vp_in x 6) (hdg : decode cc pc = .ok (.aaload, 1)) {j : Nat} (hj : 6 * i + x.toNatClampNeg - 10 = j)
    (kk : W p l e R s m args below meth c H locs cells slots Q (F0 m (pc + 1) ls (.ref (ga G j) :: rest))) : W p l e R s m args below meth c H locs cells slots Q (F0 m pc ls (.int x :: .ref (ga G i) :: rest)) := by
  subst hj
  exact va_aldq C.1.1 C.1.2.1 C.2.1.1 w.1 i 1 (wl_get (by omega) (pE_ps hi)) rfl hin hdg kk
theorem Wd.zf (C : Cx G p s m args meth c own cc nL ret) (w : Wd G s M H locs) : va_S (Zf G) s.heap H locs :=
  ⟨w.2.1, fun q h1 h2 => w.2.2.1 q h1 (fun z => h2 (Af_Zf C.2.2.1 C.2.1.2.2.1 q z)), fun q hq => Af_Zf C.2.2.1 C.2.1.2.2.1 _ (w.2.2.2 q hq)⟩
theorem ret_i (C : Cx G p s m args meth c own cc nL (some .int)) (w : Wd G s M H locs) {v : Int32} {post : Int32 → Mem → Prop} (hp : post v M) (hdg : decode cc pc = .ok (.ireturn, 1)) : W p l e R s m args below meth c H locs 0 0 (MQ below (va_Qi post (Qw G) (Af G s.heap.size)) args s 0 0 (Af G s.heap.size)) (F0 m pc ls [.int v]) :=
  W.iret C.1.1 C.1.2.1 C.2.2.2.1 (fun t ht hW => ⟨⟨v, M, rfl, hp, by unfold Qw; rw [ht]; exact w.1⟩, w.2.F ht⟩) w.2.2.2 hdg C.2.2.2.2
theorem ret_z (C : Cx G p s m args meth c own cc nL (some .boolean)) (w : Wd G s M H locs) {v : Int32} {post : Int32 → Mem → Prop} (hp : (v = 0 ∨ v = 1) ∧ post v M) (hdg : decode cc pc = .ok (.ireturn, 1)) : W p l e R s m args below meth c H locs 0 0 (MQ below (va_Qi post (Qw G) (Af G s.heap.size)) args s 0 0 (Af G s.heap.size)) (F0 m pc ls [.int v]) :=
  W.zret C.1.1 C.1.2.1 C.2.2.2.1 (bz_nar hp.1) (fun t ht hW => ⟨⟨v, M, rfl, hp.2, by unfold Qw; rw [ht]; exact w.1⟩, w.2.F ht⟩) w.2.2.2 hdg C.2.2.2.2
theorem ret_v (C : Cx G p s m args meth c own cc nL none) (w : Wd G s M H locs) {post : Mem → Prop} (hp : post M) (hdg : decode cc pc = .ok (.return_, 1)) : W p l e R s m args below meth c H locs 0 0 (MQ below (va_Qv post (Qw G) (Af G s.heap.size)) args s 0 0 (Af G s.heap.size)) (F0 m pc ls []) :=
  W.vret C.1.1 C.1.2.1 C.2.2.2.1 (fun t ht hW => ⟨⟨M, rfl, hp, by unfold Qw; rw [ht]; exact w.1⟩, w.2.F ht⟩) w.2.2.2 hdg C.2.2.2.2
theorem Cx.of {y : MethodName} {ws : List Cond} {rm : Room} {s₁ : State} (hG : Ag G) (hE : Ec G s) (hy : y.cls = own) (hml : c.maxLocals = nL) (B : BodyLoose p l y (headSpec (Cond.code y cc nL ret :: wsL_law) rm) cc nL ret e s m args below meth c s₁) : Cx G p s m args meth c own cc nL ret := by
  subst hy
  exact ⟨⟨B.exec, B.bytes, hml, findClass_of_methodNamed B.named, fun w hw => atoms_spec (ws := Cond.code y cc nL ret :: wsL_law) B.pre w (List.mem_cons_of_mem _ hw)⟩, hE, hG, B.returns, B.notSynchronized⟩
theorem Pw.blind {av : List Value} {sz : Nat} : FrameBlind (va_Pc av (Pw G sz M)) := fun a U g mk h => ⟨h.1, h.2.1, h.2.2.1.call, h.2.2.2⟩
theorem Wd.pre (C : Cx G p s m args meth c own cc nL ret) (w : Wd G s M H locs) {av : List Value} : ∀ U : State, U.heap = H → s.WarmedH U.vm → va_Pc av (Pw G H.size M) av.toArray U := fun U hU hW => ⟨rfl, by rw [hU], C.2.1.warm C.2.2.1 w.2 hU hW, by rw [hU]; exact w.1⟩
theorem Wd.af (w : Wd G s M H locs) : ∀ q, Af G H.size q → Af G s.heap.size q := fun q h => h.elim Or.inl (fun z => Or.inr (Nat.le_trans w.2.1 z))
theorem Wd.recv (C : Cx G p s m args meth c own cc nL ret) (w : Wd G s M H locs) {i ci : Nat} (hi : i < 69) {fs : List Value} {q : vw_C} (he : pE G (M i) i = .inr (ci, fs)) (hc : vwCl[ci]? = some q) : ∃ cell : Cell, H[ga G i]? = some cell ∧ cell.vm.isStatics = false ∧ s.vm.findClass q.1 = some cell.cls := va_recv C.2.1.1 w.1 hc (wl_get hi he)
variable {y : MethodName} {b : ByteArray} {nY d D n idx : Nat} {rt : Option FieldType} {av : List Value}
theorem lvl (h : d + 1 ≤ D) (hn : nY ≤ 32) : (rmk d).frames + 1 ≤ (rmk D).frames ∧ 8 + (nY + 11) + (rmk d).locals ≤ (rmk D).locals := by
  refine ⟨h, ?_⟩
  show 8 + (nY + 11) + 64 * d ≤ 64 * D
  omega
theorem Cx.cB (C : Cx G p s m args meth c own cc nL ret) (hy : Cond.code y b nY rt ∈ wsL_law) (hi : Cond.initialized y.cls ∈ wsL_law) (hl : Cond.methodLink own idx y ∈ wsL_law) (hd : y.cls ≠ "java/lang/invoke/MethodHandle" ∧ y.cls ≠ "java/lang/invoke/VarHandle" ∧ (parseMethodDescriptor y.desc).map (fun d => d.parameters.length) = some n) (h : d + 1 ≤ D) (hn : nY ≤ 32) :
    CallB (rmk D) s args own idx y b nY rt (Cond.code y b nY rt :: wsL_law) (rmk d) 0 0 n :=
  callB_of n C.1.2.2.2.2 (good_y hy) rfl rfl rfl (C.ws hi) (C.ws hl) hd (lvl h hn)
theorem Cx.cN (C : Cx G p s m args meth c own cc nL ret) (hy : Cond.code y b nY rt ∈ wsL_law) (hi : Cond.initialized y.cls ∈ wsL_law) (hl : Cond.methodLinkNest own idx y RX5 ∈ nestA) (hd : y.cls ≠ "java/lang/invoke/MethodHandle" ∧ y.cls ≠ "java/lang/invoke/VarHandle" ∧ (parseMethodDescriptor y.desc).map (fun d => d.parameters.length) = some n) (h : d + 1 ≤ D) (hn : nY ≤ 32) :
    va_CN (rmk D) s args own idx y RX5 b nY rt (Cond.code y b nY rt :: wsL_law) (rmk d) 0 0 n :=
  va_cnB n C.1.2.2.2.2 (good_y hy) rfl rfl rfl (C.2.1.2.1 _ hl) (C.ws hi) hd (lvl h hn)
/-- a call: its answer, its memory -/
theorem end_i (w : Wd G s M H locs) {post : Int32 → Mem → Prop} {st0 : List Value} {a : Array Value} (hr : va_Run p l e R s m args below meth c H locs 0 0 0 0 (F0 m pc ls st0) rest (va_Qi post (Qw G) (Af G H.size) a) (Af G H.size))
    (kk : ∀ (r : Int32) (M1 : Mem) (H1 : Heap) (locs1 : List Loc), post r M1 → Wd G s M1 H1 locs1 → W p l e R s m args below meth c H1 locs1 0 0 Q (F0 m (pc + 3) ls (.int r :: rest))) : W p l e R s m args below meth c H locs 0 0 Q (F0 m pc ls st0) :=
  va_calli hr w.2 (fun q _ h => w.af q h) w.af (fun r u t H1 locs1 ht _ hp hB _ _ hS => kk r u H1 locs1 hp ⟨by unfold Qw at hB; rw [ht] at hB; exact hB, hS⟩)
theorem end_v (w : Wd G s M H locs) {post : Mem → Prop} {st0 : List Value} {a : Array Value} (hr : va_Run p l e R s m args below meth c H locs 0 0 0 0 (F0 m pc ls st0) rest (va_Qv post (Qw G) (Af G H.size) a) (Af G H.size))
    (kk : ∀ (M1 : Mem) (H1 : Heap) (locs1 : List Loc), post M1 → Wd G s M1 H1 locs1 → W p l e R s m args below meth c H1 locs1 0 0 Q (F0 m (pc + 3) ls rest)) : W p l e R s m args below meth c H locs 0 0 Q (F0 m pc ls st0) :=
  va_callv hr w.2 (fun q _ h => w.af q h) w.af (fun u t H1 locs1 ht _ hp hB _ _ hS => kk u H1 locs1 hp ⟨by unfold Qw at hB; rw [ht] at hB; exact hB, hS⟩)
variable {Qc : Array Value → State → Outcome → State → Prop} {i : Nat} {As : List Value}
theorem run_V (C : Cx G p s m args meth c own cc nL ret) (w : Wd G s M H locs) (hl : ls.size = nL) (hM : Met l y (Cond.code y b nY rt :: wsL_law) (rmk d) (va_Pc (.ref (ga G i) :: As) (Pw G H.size M)) Qc 0 0 (Af G H.size)) (hy : Cond.code y b nY rt ∈ wsL_law) (hi : Cond.initialized y.cls ∈ wsL_law) (hk : Cond.methodLink own idx y ∈ wsL_law) (hin : Cond.instanceMethod y ∈ wsL_law) (hse : Cond.selects y.cls y y ∈ wsL_law)
    (hd : y.cls ≠ "java/lang/invoke/MethodHandle" ∧ y.cls ≠ "java/lang/invoke/VarHandle" ∧ (parseMethodDescriptor y.desc).map (fun d => d.parameters.length) = some As.length) (h : d + 1 ≤ D ∧ nY ≤ 32) (hrv : ∃ cell : Cell, H[ga G i]? = some cell ∧ cell.vm.isStatics = false ∧ s.vm.findClass y.cls = some cell.cls) {st0 : List Value} (hst : st0 = As.reverse ++ .ref (ga G i) :: rest) (hrm : (rest.map fun v => v.category).sum ≤ 8) (hdg : decode cc pc = .ok (.invokevirtual idx, 3)) :
    va_Run p l e (rmk D) s m args below meth c H locs 0 0 0 0 (F0 m pc ls st0) rest (Qc (Value.ref (ga G i) :: As).toArray) (Af G H.size) :=
  va_runV C.1 hM ⟨C.cB hy hi hk hd h.1 h.2, C.ws hin, C.ws hse⟩ ⟨Pw.blind, hrv, w.pre C⟩ rfl rfl hl hst (lv_room hrm) hdg ⟨Nat.le_refl 0, Nat.le_refl 0⟩
theorem run_VN (C : Cx G p s m args meth c own cc nL ret) (w : Wd G s M H locs) (hl : ls.size = nL) (hM : Met l y (Cond.code y b nY rt :: wsL_law) (rmk d) (va_Pc (.ref (ga G i) :: As) (Pw G H.size M)) Qc 0 0 (Af G H.size)) (hy : Cond.code y b nY rt ∈ wsL_law) (hi : Cond.initialized y.cls ∈ wsL_law) (hk : Cond.methodLinkNest own idx y RX5 ∈ nestA) (hin : Cond.instanceMethod y ∈ wsL_law) (hse : Cond.selects y.cls y y ∈ wsL_law)
    (hd : y.cls ≠ "java/lang/invoke/MethodHandle" ∧ y.cls ≠ "java/lang/invoke/VarHandle" ∧ (parseMethodDescriptor y.desc).map (fun d => d.parameters.length) = some As.length) (h : d + 1 ≤ D ∧ nY ≤ 32) (hrv : ∃ cell : Cell, H[ga G i]? = some cell ∧ cell.vm.isStatics = false ∧ s.vm.findClass y.cls = some cell.cls) {st0 : List Value} (hst : st0 = As.reverse ++ .ref (ga G i) :: rest) (hrm : (rest.map fun v => v.category).sum ≤ 8) (hdg : decode cc pc = .ok (.invokevirtual idx, 3)) :
    va_Run p l e (rmk D) s m args below meth c H locs 0 0 0 0 (F0 m pc ls st0) rest (Qc (Value.ref (ga G i) :: As).toArray) (Af G H.size) :=
  va_runVN C.1 hM ⟨C.cN hy hi hk hd h.1 h.2, C.ws hin, C.ws hse⟩ ⟨Pw.blind, hrv, w.pre C⟩ rfl rfl hl hst (lv_room hrm) hdg ⟨Nat.le_refl 0, Nat.le_refl 0⟩
theorem run_S (C : Cx G p s m args meth c own cc nL ret) (w : Wd G s M H locs) (hl : ls.size = nL) (hM : Met l y (Cond.code y b nY rt :: wsL_law) (rmk d) (va_Pc As (Pw G H.size M)) Qc 0 0 (Af G H.size)) (hy : Cond.code y b nY rt ∈ wsL_law) (hi : Cond.initialized y.cls ∈ wsL_law) (hk : Cond.methodLink own idx y ∈ wsL_law) (hse : Cond.static y ∈ wsL_law)
    (hd : y.cls ≠ "java/lang/invoke/MethodHandle" ∧ y.cls ≠ "java/lang/invoke/VarHandle" ∧ (parseMethodDescriptor y.desc).map (fun d => d.parameters.length) = some As.length) (h : d + 1 ≤ D ∧ nY ≤ 32) {st0 : List Value} (hst : st0 = As.reverse ++ rest) (hrm : (rest.map fun v => v.category).sum ≤ 8) (hdg : decode cc pc = .ok (.invokestatic idx, 3)) :
    va_Run p l e (rmk D) s m args below meth c H locs 0 0 0 0 (F0 m pc ls st0) rest (Qc As.toArray) (Af G H.size) :=
  va_runS C.1 hM ⟨C.cB hy hi hk hd h.1 h.2, C.ws hse⟩ ⟨Pw.blind, w.pre C⟩ rfl rfl hl hst (lv_room hrm) hdg ⟨Nat.le_refl 0, Nat.le_refl 0⟩
theorem run_SN (C : Cx G p s m args meth c own cc nL ret) (w : Wd G s M H locs) (hl : ls.size = nL) (hM : Met l y (Cond.code y b nY rt :: wsL_law) (rmk d) (va_Pc As (Pw G H.size M)) Qc 0 0 (Af G H.size)) (hy : Cond.code y b nY rt ∈ wsL_law) (hi : Cond.initialized y.cls ∈ wsL_law) (hk : Cond.methodLinkNest own idx y RX5 ∈ nestA) (hse : Cond.static y ∈ wsL_law)
    (hd : y.cls ≠ "java/lang/invoke/MethodHandle" ∧ y.cls ≠ "java/lang/invoke/VarHandle" ∧ (parseMethodDescriptor y.desc).map (fun d => d.parameters.length) = some As.length) (h : d + 1 ≤ D ∧ nY ≤ 32) {st0 : List Value} (hst : st0 = As.reverse ++ rest) (hrm : (rest.map fun v => v.category).sum ≤ 8) (hdg : decode cc pc = .ok (.invokestatic idx, 3)) :
    va_Run p l e (rmk D) s m args below meth c H locs 0 0 0 0 (F0 m pc ls st0) rest (Qc As.toArray) (Af G H.size) :=
  va_runSN C.1 hM ⟨C.cN hy hi hk hd h.1 h.2, C.ws hse, trivial⟩ ⟨Pw.blind, w.pre C⟩ rfl rfl hl hst (lv_room hrm) hdg ⟨Nat.le_refl 0, Nat.le_refl 0⟩
end POOL
end
