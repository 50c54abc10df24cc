section
-- ===== PART A: goes FIRST, ahead of the names: the tables' words, and 'selects' of the private methods out of them =====
/-- a private method of a class that the tables say can be made, by its rows of tables_1 -/
def lw_okq (q : MethodName × Nat) : Prop := (q.1.cls ≠ "java/lang/invoke/MethodHandle" ∧ q.1.cls ≠ "java/lang/invoke/VarHandle") ∧ Cond.instantiable q.1.cls q.2 ∈ tables_1 ∧ Cond.privateMethod q.1 ∈ tables_1 ∧ Cond.instanceMethod q.1 ∈ tables_1
theorem lw_p0 : lw_okq (⟨"PointMaker$Program", "forgetGiven", "()V"⟩, 3) := ⟨⟨by decide +kernel, by decide +kernel⟩, List.mem_of_getElem? (i := 141) (by decide +kernel), List.mem_of_getElem? (i := 149) (by decide +kernel), List.mem_of_getElem? (i := 150) (by decide +kernel)⟩
theorem lw_p1 : lw_okq (⟨"PointMaker$Reader", "advance", "()Z"⟩, 8) := ⟨⟨by decide +kernel, by decide +kernel⟩, List.mem_of_getElem? (i := 27) (by decide +kernel), List.mem_of_getElem? (i := 366) (by decide +kernel), List.mem_of_getElem? (i := 367) (by decide +kernel)⟩
theorem lw_p2 : lw_okq (⟨"PointMaker$Reader", "refuse", "(II)Z"⟩, 8) := ⟨⟨by decide +kernel, by decide +kernel⟩, List.mem_of_getElem? (i := 27) (by decide +kernel), List.mem_of_getElem? (i := 377) (by decide +kernel), List.mem_of_getElem? (i := 378) (by decide +kernel)⟩
theorem lw_p3 : lw_okq (⟨"PointMaker$Reader", "takesBlock", "()Z"⟩, 8) := ⟨⟨by decide +kernel, by decide +kernel⟩, List.mem_of_getElem? (i := 27) (by decide +kernel), List.mem_of_getElem? (i := 381) (by decide +kernel), List.mem_of_getElem? (i := 382) (by decide +kernel)⟩
theorem lw_p4 : lw_okq (⟨"PointMaker$Reader", "isWord", "(Ljava/lang/String;)Z"⟩, 8) := ⟨⟨by decide +kernel, by decide +kernel⟩, List.mem_of_getElem? (i := 27) (by decide +kernel), List.mem_of_getElem? (i := 386) (by decide +kernel), List.mem_of_getElem? (i := 387) (by decide +kernel)⟩
theorem lw_p5 : lw_okq (⟨"PointMaker$Reader", "takesSemicolon", "()Z"⟩, 8) := ⟨⟨by decide +kernel, by decide +kernel⟩, List.mem_of_getElem? (i := 27) (by decide +kernel), List.mem_of_getElem? (i := 454) (by decide +kernel), List.mem_of_getElem? (i := 455) (by decide +kernel)⟩
theorem lw_p6 : lw_okq (⟨"PointMaker$Reader", "take", "(I)I"⟩, 8) := ⟨⟨by decide +kernel, by decide +kernel⟩, List.mem_of_getElem? (i := 27) (by decide +kernel), List.mem_of_getElem? (i := 458) (by decide +kernel), List.mem_of_getElem? (i := 459) (by decide +kernel)⟩
theorem lw_p7 : lw_okq (⟨"PointMaker$Reader", "takesSet", "()Z"⟩, 8) := ⟨⟨by decide +kernel, by decide +kernel⟩, List.mem_of_getElem? (i := 27) (by decide +kernel), List.mem_of_getElem? (i := 464) (by decide +kernel), List.mem_of_getElem? (i := 465) (by decide +kernel)⟩
theorem lw_p8 : lw_okq (⟨"PointMaker$Reader", "variableHere", "()I"⟩, 8) := ⟨⟨by decide +kernel, by decide +kernel⟩, List.mem_of_getElem? (i := 27) (by decide +kernel), List.mem_of_getElem? (i := 468) (by decide +kernel), List.mem_of_getElem? (i := 469) (by decide +kernel)⟩
theorem lw_p9 : lw_okq (⟨"PointMaker$Reader", "operandHere", "()I"⟩, 8) := ⟨⟨by decide +kernel, by decide +kernel⟩, List.mem_of_getElem? (i := 27) (by decide +kernel), List.mem_of_getElem? (i := 475) (by decide +kernel), List.mem_of_getElem? (i := 476) (by decide +kernel)⟩
theorem lw_p10 : lw_okq (⟨"PointMaker$Reader", "opHere", "()I"⟩, 8) := ⟨⟨by decide +kernel, by decide +kernel⟩, List.mem_of_getElem? (i := 27) (by decide +kernel), List.mem_of_getElem? (i := 483) (by decide +kernel), List.mem_of_getElem? (i := 484) (by decide +kernel)⟩
theorem lw_p11 : lw_okq (⟨"PointMaker$Reader", "takesSay", "()Z"⟩, 8) := ⟨⟨by decide +kernel, by decide +kernel⟩, List.mem_of_getElem? (i := 27) (by decide +kernel), List.mem_of_getElem? (i := 494) (by decide +kernel), List.mem_of_getElem? (i := 495) (by decide +kernel)⟩
theorem lw_p12 : lw_okq (⟨"PointMaker$Reader", "takesEnd", "()Z"⟩, 8) := ⟨⟨by decide +kernel, by decide +kernel⟩, List.mem_of_getElem? (i := 27) (by decide +kernel), List.mem_of_getElem? (i := 498) (by decide +kernel), List.mem_of_getElem? (i := 499) (by decide +kernel)⟩
theorem lw_p13 : lw_okq (⟨"PointMaker$Reader", "takesGoto", "()Z"⟩, 8) := ⟨⟨by decide +kernel, by decide +kernel⟩, List.mem_of_getElem? (i := 27) (by decide +kernel), List.mem_of_getElem? (i := 504) (by decide +kernel), List.mem_of_getElem? (i := 505) (by decide +kernel)⟩
theorem lw_p14 : lw_okq (⟨"PointMaker$Reader", "takeBlockNumber", "()I"⟩, 8) := ⟨⟨by decide +kernel, by decide +kernel⟩, List.mem_of_getElem? (i := 27) (by decide +kernel), List.mem_of_getElem? (i := 508) (by decide +kernel), List.mem_of_getElem? (i := 509) (by decide +kernel)⟩
theorem lw_p15 : lw_okq (⟨"PointMaker$Reader", "takesIf", "()Z"⟩, 8) := ⟨⟨by decide +kernel, by decide +kernel⟩, List.mem_of_getElem? (i := 27) (by decide +kernel), List.mem_of_getElem? (i := 514) (by decide +kernel), List.mem_of_getElem? (i := 515) (by decide +kernel)⟩
def lw_privs_1 : List (MethodName × Nat) := [(⟨"PointMaker$Program", "forgetGiven", "()V"⟩, 3), (⟨"PointMaker$Reader", "advance", "()Z"⟩, 8), (⟨"PointMaker$Reader", "refuse", "(II)Z"⟩, 8), (⟨"PointMaker$Reader", "takesBlock", "()Z"⟩, 8), (⟨"PointMaker$Reader", "isWord", "(Ljava/lang/String;)Z"⟩, 8), (⟨"PointMaker$Reader", "takesSemicolon", "()Z"⟩, 8), (⟨"PointMaker$Reader", "take", "(I)I"⟩, 8), (⟨"PointMaker$Reader", "takesSet", "()Z"⟩, 8), (⟨"PointMaker$Reader", "variableHere", "()I"⟩, 8), (⟨"PointMaker$Reader", "operandHere", "()I"⟩, 8), (⟨"PointMaker$Reader", "opHere", "()I"⟩, 8), (⟨"PointMaker$Reader", "takesSay", "()Z"⟩, 8), (⟨"PointMaker$Reader", "takesEnd", "()Z"⟩, 8), (⟨"PointMaker$Reader", "takesGoto", "()Z"⟩, 8), (⟨"PointMaker$Reader", "takeBlockNumber", "()I"⟩, 8), (⟨"PointMaker$Reader", "takesIf", "()Z"⟩, 8)]
theorem lw_r1 : ∀ q ∈ lw_privs_1, lw_okq q := List.forall_mem_cons.mpr ⟨lw_p0, List.forall_mem_cons.mpr ⟨lw_p1, List.forall_mem_cons.mpr ⟨lw_p2, List.forall_mem_cons.mpr ⟨lw_p3, List.forall_mem_cons.mpr ⟨lw_p4, List.forall_mem_cons.mpr ⟨lw_p5, List.forall_mem_cons.mpr ⟨lw_p6, List.forall_mem_cons.mpr ⟨lw_p7, List.forall_mem_cons.mpr ⟨lw_p8, List.forall_mem_cons.mpr ⟨lw_p9, List.forall_mem_cons.mpr ⟨lw_p10, List.forall_mem_cons.mpr ⟨lw_p11, List.forall_mem_cons.mpr ⟨lw_p12, List.forall_mem_cons.mpr ⟨lw_p13, List.forall_mem_cons.mpr ⟨lw_p14, List.forall_mem_cons.mpr ⟨lw_p15, fun _ h => absurd h List.not_mem_nil⟩⟩⟩⟩⟩⟩⟩⟩⟩⟩⟩⟩⟩⟩⟩⟩
theorem lw_p16 : lw_okq (⟨"PointMaker$Reader", "leadsToBlocks", "()Z"⟩, 8) := ⟨⟨by decide +kernel, by decide +kernel⟩, List.mem_of_getElem? (i := 27) (by decide +kernel), List.mem_of_getElem? (i := 518) (by decide +kernel), List.mem_of_getElem? (i := 519) (by decide +kernel)⟩
theorem lw_p17 : lw_okq (⟨"PointMaker", "refresh", "()V"⟩, 17) := ⟨⟨by decide +kernel, by decide +kernel⟩, List.mem_of_getElem? (i := 19) (by decide +kernel), List.mem_of_getElem? (i := 547) (by decide +kernel), List.mem_of_getElem? (i := 548) (by decide +kernel)⟩
theorem lw_p18 : lw_okq (⟨"PointMaker$Division", "spreadsUnknown", "(LPointMaker$Web;)Z"⟩, 2) := ⟨⟨by decide +kernel, by decide +kernel⟩, List.mem_of_getElem? (i := 177) (by decide +kernel), List.mem_of_getElem? (i := 566) (by decide +kernel), List.mem_of_getElem? (i := 567) (by decide +kernel)⟩
theorem lw_p19 : lw_okq (⟨"PointMaker$Division", "spreadsAhead", "(LPointMaker$Web;)Z"⟩, 2) := ⟨⟨by decide +kernel, by decide +kernel⟩, List.mem_of_getElem? (i := 177) (by decide +kernel), List.mem_of_getElem? (i := 580) (by decide +kernel), List.mem_of_getElem? (i := 581) (by decide +kernel)⟩
theorem lw_p20 : lw_okq (⟨"PointMaker$Points", "meet", "(LPointMaker$Program;II)I"⟩, 8) := ⟨⟨by decide +kernel, by decide +kernel⟩, List.mem_of_getElem? (i := 171) (by decide +kernel), List.mem_of_getElem? (i := 596) (by decide +kernel), List.mem_of_getElem? (i := 597) (by decide +kernel)⟩
theorem lw_p21 : lw_okq (⟨"PointMaker$Points", "seek", "(II)V"⟩, 8) := ⟨⟨by decide +kernel, by decide +kernel⟩, List.mem_of_getElem? (i := 171) (by decide +kernel), List.mem_of_getElem? (i := 600) (by decide +kernel), List.mem_of_getElem? (i := 601) (by decide +kernel)⟩
theorem lw_p22 : lw_okq (⟨"PointMaker$Points", "findAlike", "(I)I"⟩, 8) := ⟨⟨by decide +kernel, by decide +kernel⟩, List.mem_of_getElem? (i := 171) (by decide +kernel), List.mem_of_getElem? (i := 609) (by decide +kernel), List.mem_of_getElem? (i := 610) (by decide +kernel)⟩
theorem lw_p23 : lw_okq (⟨"PointMaker$Points", "specialise", "(LPointMaker$Program;I)V"⟩, 8) := ⟨⟨by decide +kernel, by decide +kernel⟩, List.mem_of_getElem? (i := 171) (by decide +kernel), List.mem_of_getElem? (i := 614) (by decide +kernel), List.mem_of_getElem? (i := 615) (by decide +kernel)⟩
theorem lw_p24 : lw_okq (⟨"PointMaker$Points", "doOrLeave", "(LPointMaker$Web;II)V"⟩, 8) := ⟨⟨by decide +kernel, by decide +kernel⟩, List.mem_of_getElem? (i := 171) (by decide +kernel), List.mem_of_getElem? (i := 620) (by decide +kernel), List.mem_of_getElem? (i := 621) (by decide +kernel)⟩
theorem lw_p25 : lw_okq (⟨"PointMaker$Points", "asKnown", "(I)I"⟩, 8) := ⟨⟨by decide +kernel, by decide +kernel⟩, List.mem_of_getElem? (i := 171) (by decide +kernel), List.mem_of_getElem? (i := 625) (by decide +kernel), List.mem_of_getElem? (i := 626) (by decide +kernel)⟩
theorem lw_p26 : lw_okq (⟨"PointMaker$Points", "leadOn", "(LPointMaker$Program;II)V"⟩, 8) := ⟨⟨by decide +kernel, by decide +kernel⟩, List.mem_of_getElem? (i := 171) (by decide +kernel), List.mem_of_getElem? (i := 638) (by decide +kernel), List.mem_of_getElem? (i := 639) (by decide +kernel)⟩
theorem lw_p27 : lw_okq (⟨"PointMaker", "lettersOfAll", "()I"⟩, 17) := ⟨⟨by decide +kernel, by decide +kernel⟩, List.mem_of_getElem? (i := 19) (by decide +kernel), List.mem_of_getElem? (i := 644) (by decide +kernel), List.mem_of_getElem? (i := 645) (by decide +kernel)⟩
theorem lw_p28 : lw_okq (⟨"PointMaker$Letters", "addStep", "(LPointMaker$Web;I)V"⟩, 2) := ⟨⟨by decide +kernel, by decide +kernel⟩, List.mem_of_getElem? (i := 226) (by decide +kernel), List.mem_of_getElem? (i := 665) (by decide +kernel), List.mem_of_getElem? (i := 666) (by decide +kernel)⟩
theorem lw_p29 : lw_okq (⟨"PointMaker$Letters", "addEnding", "(LPointMaker$Web;I)V"⟩, 2) := ⟨⟨by decide +kernel, by decide +kernel⟩, List.mem_of_getElem? (i := 226) (by decide +kernel), List.mem_of_getElem? (i := 684) (by decide +kernel), List.mem_of_getElem? (i := 685) (by decide +kernel)⟩
theorem lw_p30 : lw_okq (⟨"PointMaker", "isBlock", "(I)Z"⟩, 17) := ⟨⟨by decide +kernel, by decide +kernel⟩, List.mem_of_getElem? (i := 19) (by decide +kernel), List.mem_of_getElem? (i := 699) (by decide +kernel), List.mem_of_getElem? (i := 700) (by decide +kernel)⟩
theorem lw_p31 : lw_okq (⟨"PointMaker", "isPoint", "(I)Z"⟩, 17) := ⟨⟨by decide +kernel, by decide +kernel⟩, List.mem_of_getElem? (i := 19) (by decide +kernel), List.mem_of_getElem? (i := 723) (by decide +kernel), List.mem_of_getElem? (i := 724) (by decide +kernel)⟩
def lw_privs_2 : List (MethodName × Nat) := [(⟨"PointMaker$Reader", "leadsToBlocks", "()Z"⟩, 8), (⟨"PointMaker", "refresh", "()V"⟩, 17), (⟨"PointMaker$Division", "spreadsUnknown", "(LPointMaker$Web;)Z"⟩, 2), (⟨"PointMaker$Division", "spreadsAhead", "(LPointMaker$Web;)Z"⟩, 2), (⟨"PointMaker$Points", "meet", "(LPointMaker$Program;II)I"⟩, 8), (⟨"PointMaker$Points", "seek", "(II)V"⟩, 8), (⟨"PointMaker$Points", "findAlike", "(I)I"⟩, 8), (⟨"PointMaker$Points", "specialise", "(LPointMaker$Program;I)V"⟩, 8), (⟨"PointMaker$Points", "doOrLeave", "(LPointMaker$Web;II)V"⟩, 8), (⟨"PointMaker$Points", "asKnown", "(I)I"⟩, 8), (⟨"PointMaker$Points", "leadOn", "(LPointMaker$Program;II)V"⟩, 8), (⟨"PointMaker", "lettersOfAll", "()I"⟩, 17), (⟨"PointMaker$Letters", "addStep", "(LPointMaker$Web;I)V"⟩, 2), (⟨"PointMaker$Letters", "addEnding", "(LPointMaker$Web;I)V"⟩, 2), (⟨"PointMaker", "isBlock", "(I)Z"⟩, 17), (⟨"PointMaker", "isPoint", "(I)Z"⟩, 17)]
theorem lw_r2 : ∀ q ∈ lw_privs_2, lw_okq q := List.forall_mem_cons.mpr ⟨lw_p16, List.forall_mem_cons.mpr ⟨lw_p17, List.forall_mem_cons.mpr ⟨lw_p18, List.forall_mem_cons.mpr ⟨lw_p19, List.forall_mem_cons.mpr ⟨lw_p20, List.forall_mem_cons.mpr ⟨lw_p21, List.forall_mem_cons.mpr ⟨lw_p22, List.forall_mem_cons.mpr ⟨lw_p23, List.forall_mem_cons.mpr ⟨lw_p24, List.forall_mem_cons.mpr ⟨lw_p25, List.forall_mem_cons.mpr ⟨lw_p26, List.forall_mem_cons.mpr ⟨lw_p27, List.forall_mem_cons.mpr ⟨lw_p28, List.forall_mem_cons.mpr ⟨lw_p29, List.forall_mem_cons.mpr ⟨lw_p30, List.forall_mem_cons.mpr ⟨lw_p31, fun _ h => absurd h List.not_mem_nil⟩⟩⟩⟩⟩⟩⟩⟩⟩⟩⟩⟩⟩⟩⟩⟩
theorem lw_p32 : lw_okq (⟨"PointMaker", "write", "(I)V"⟩, 17) := ⟨⟨by decide +kernel, by decide +kernel⟩, List.mem_of_getElem? (i := 19) (by decide +kernel), List.mem_of_getElem? (i := 727) (by decide +kernel), List.mem_of_getElem? (i := 728) (by decide +kernel)⟩
theorem lw_p33 : lw_okq (⟨"PointMaker", "isLeft", "(II)Z"⟩, 17) := ⟨⟨by decide +kernel, by decide +kernel⟩, List.mem_of_getElem? (i := 19) (by decide +kernel), List.mem_of_getElem? (i := 740) (by decide +kernel), List.mem_of_getElem? (i := 741) (by decide +kernel)⟩
theorem lw_p34 : lw_okq (⟨"PointMaker$Letters", "hasAt", "(LPointMaker$Letters;I)Z"⟩, 2) := ⟨⟨by decide +kernel, by decide +kernel⟩, List.mem_of_getElem? (i := 226) (by decide +kernel), List.mem_of_getElem? (i := 764) (by decide +kernel), List.mem_of_getElem? (i := 765) (by decide +kernel)⟩
theorem lw_p35 : lw_okq (⟨"PointMaker$Run", "doSteps", "(LPointMaker$Web;I)V"⟩, 6) := ⟨⟨by decide +kernel, by decide +kernel⟩, List.mem_of_getElem? (i := 240) (by decide +kernel), List.mem_of_getElem? (i := 786) (by decide +kernel), List.mem_of_getElem? (i := 787) (by decide +kernel)⟩
theorem lw_p36 : lw_okq (⟨"PointMaker$Run", "onward", "(LPointMaker$Web;I)I"⟩, 6) := ⟨⟨by decide +kernel, by decide +kernel⟩, List.mem_of_getElem? (i := 240) (by decide +kernel), List.mem_of_getElem? (i := 798) (by decide +kernel), List.mem_of_getElem? (i := 799) (by decide +kernel)⟩
theorem lw_p37 : lw_okq (⟨"PointMaker", "compareRuns", "(I)I"⟩, 17) := ⟨⟨by decide +kernel, by decide +kernel⟩, List.mem_of_getElem? (i := 19) (by decide +kernel), List.mem_of_getElem? (i := 816) (by decide +kernel), List.mem_of_getElem? (i := 817) (by decide +kernel)⟩
theorem lw_p38 : lw_okq (⟨"PointMaker", "startsSum", "()I"⟩, 17) := ⟨⟨by decide +kernel, by decide +kernel⟩, List.mem_of_getElem? (i := 19) (by decide +kernel), List.mem_of_getElem? (i := 898) (by decide +kernel), List.mem_of_getElem? (i := 899) (by decide +kernel)⟩
theorem lw_p39 : lw_okq (⟨"PointMaker", "numbersSum", "()I"⟩, 17) := ⟨⟨by decide +kernel, by decide +kernel⟩, List.mem_of_getElem? (i := 19) (by decide +kernel), List.mem_of_getElem? (i := 902) (by decide +kernel), List.mem_of_getElem? (i := 903) (by decide +kernel)⟩
theorem lw_p40 : lw_okq (⟨"PointMakerModel", "readsOn", "()V"⟩, 46) := ⟨⟨by decide +kernel, by decide +kernel⟩, List.mem_of_getElem? (i := 909) (by decide +kernel), List.mem_of_getElem? (i := 1070) (by decide +kernel), List.mem_of_getElem? (i := 1071) (by decide +kernel)⟩
theorem lw_p41 : lw_okq (⟨"PointMakerModel", "byteAt", "(I)I"⟩, 46) := ⟨⟨by decide +kernel, by decide +kernel⟩, List.mem_of_getElem? (i := 909) (by decide +kernel), List.mem_of_getElem? (i := 1074) (by decide +kernel), List.mem_of_getElem? (i := 1075) (by decide +kernel)⟩
theorem lw_p42 : lw_okq (⟨"PointMakerModel", "fails", "(I)V"⟩, 46) := ⟨⟨by decide +kernel, by decide +kernel⟩, List.mem_of_getElem? (i := 909) (by decide +kernel), List.mem_of_getElem? (i := 1082) (by decide +kernel), List.mem_of_getElem? (i := 1083) (by decide +kernel)⟩
theorem lw_p43 : lw_okq (⟨"PointMakerModel", "readBlock", "()V"⟩, 46) := ⟨⟨by decide +kernel, by decide +kernel⟩, List.mem_of_getElem? (i := 909) (by decide +kernel), List.mem_of_getElem? (i := 1086) (by decide +kernel), List.mem_of_getElem? (i := 1087) (by decide +kernel)⟩
theorem lw_p44 : lw_okq (⟨"PointMakerModel", "nameHere", "()I"⟩, 46) := ⟨⟨by decide +kernel, by decide +kernel⟩, List.mem_of_getElem? (i := 909) (by decide +kernel), List.mem_of_getElem? (i := 1090) (by decide +kernel), List.mem_of_getElem? (i := 1091) (by decide +kernel)⟩
theorem lw_p45 : lw_okq (⟨"PointMakerModel", "endsLine", "()V"⟩, 46) := ⟨⟨by decide +kernel, by decide +kernel⟩, List.mem_of_getElem? (i := 909) (by decide +kernel), List.mem_of_getElem? (i := 1094) (by decide +kernel), List.mem_of_getElem? (i := 1095) (by decide +kernel)⟩
theorem lw_p46 : lw_okq (⟨"PointMakerModel", "readStep", "(II)V"⟩, 46) := ⟨⟨by decide +kernel, by decide +kernel⟩, List.mem_of_getElem? (i := 909) (by decide +kernel), List.mem_of_getElem? (i := 1098) (by decide +kernel), List.mem_of_getElem? (i := 1099) (by decide +kernel)⟩
theorem lw_p47 : lw_okq (⟨"PointMakerModel", "variableRead", "()I"⟩, 46) := ⟨⟨by decide +kernel, by decide +kernel⟩, List.mem_of_getElem? (i := 909) (by decide +kernel), List.mem_of_getElem? (i := 1102) (by decide +kernel), List.mem_of_getElem? (i := 1103) (by decide +kernel)⟩
def lw_privs_3 : List (MethodName × Nat) := [(⟨"PointMaker", "write", "(I)V"⟩, 17), (⟨"PointMaker", "isLeft", "(II)Z"⟩, 17), (⟨"PointMaker$Letters", "hasAt", "(LPointMaker$Letters;I)Z"⟩, 2), (⟨"PointMaker$Run", "doSteps", "(LPointMaker$Web;I)V"⟩, 6), (⟨"PointMaker$Run", "onward", "(LPointMaker$Web;I)I"⟩, 6), (⟨"PointMaker", "compareRuns", "(I)I"⟩, 17), (⟨"PointMaker", "startsSum", "()I"⟩, 17), (⟨"PointMaker", "numbersSum", "()I"⟩, 17), (⟨"PointMakerModel", "readsOn", "()V"⟩, 46), (⟨"PointMakerModel", "byteAt", "(I)I"⟩, 46), (⟨"PointMakerModel", "fails", "(I)V"⟩, 46), (⟨"PointMakerModel", "readBlock", "()V"⟩, 46), (⟨"PointMakerModel", "nameHere", "()I"⟩, 46), (⟨"PointMakerModel", "endsLine", "()V"⟩, 46), (⟨"PointMakerModel", "readStep", "(II)V"⟩, 46), (⟨"PointMakerModel", "variableRead", "()I"⟩, 46)]
theorem lw_r3 : ∀ q ∈ lw_privs_3, lw_okq q := List.forall_mem_cons.mpr ⟨lw_p32, List.forall_mem_cons.mpr ⟨lw_p33, List.forall_mem_cons.mpr ⟨lw_p34, List.forall_mem_cons.mpr ⟨lw_p35, List.forall_mem_cons.mpr ⟨lw_p36, List.forall_mem_cons.mpr ⟨lw_p37, List.forall_mem_cons.mpr ⟨lw_p38, List.forall_mem_cons.mpr ⟨lw_p39, List.forall_mem_cons.mpr ⟨lw_p40, List.forall_mem_cons.mpr ⟨lw_p41, List.forall_mem_cons.mpr ⟨lw_p42, List.forall_mem_cons.mpr ⟨lw_p43, List.forall_mem_cons.mpr ⟨lw_p44, List.forall_mem_cons.mpr ⟨lw_p45, List.forall_mem_cons.mpr ⟨lw_p46, List.forall_mem_cons.mpr ⟨lw_p47, fun _ h => absurd h List.not_mem_nil⟩⟩⟩⟩⟩⟩⟩⟩⟩⟩⟩⟩⟩⟩⟩⟩
theorem lw_p48 : lw_okq (⟨"PointMakerModel", "operandRead", "()I"⟩, 46) := ⟨⟨by decide +kernel, by decide +kernel⟩, List.mem_of_getElem? (i := 909) (by decide +kernel), List.mem_of_getElem? (i := 1107) (by decide +kernel), List.mem_of_getElem? (i := 1108) (by decide +kernel)⟩
theorem lw_p49 : lw_okq (⟨"PointMakerModel", "numberRead", "(I)I"⟩, 46) := ⟨⟨by decide +kernel, by decide +kernel⟩, List.mem_of_getElem? (i := 909) (by decide +kernel), List.mem_of_getElem? (i := 1111) (by decide +kernel), List.mem_of_getElem? (i := 1112) (by decide +kernel)⟩
theorem lw_p50 : lw_okq (⟨"PointMakerModel", "readEnd", "(II)V"⟩, 46) := ⟨⟨by decide +kernel, by decide +kernel⟩, List.mem_of_getElem? (i := 909) (by decide +kernel), List.mem_of_getElem? (i := 1119) (by decide +kernel), List.mem_of_getElem? (i := 1120) (by decide +kernel)⟩
theorem lw_p51 : lw_okq (⟨"PointMakerModel", "isWhole", "()Z"⟩, 46) := ⟨⟨by decide +kernel, by decide +kernel⟩, List.mem_of_getElem? (i := 909) (by decide +kernel), List.mem_of_getElem? (i := 1123) (by decide +kernel), List.mem_of_getElem? (i := 1124) (by decide +kernel)⟩
theorem lw_p52 : lw_okq (⟨"PointMakerModel", "copies", "(II)V"⟩, 46) := ⟨⟨by decide +kernel, by decide +kernel⟩, List.mem_of_getElem? (i := 909) (by decide +kernel), List.mem_of_getElem? (i := 1127) (by decide +kernel), List.mem_of_getElem? (i := 1128) (by decide +kernel)⟩
theorem lw_p53 : lw_okq (⟨"PointMakerModel", "makes", "()V"⟩, 46) := ⟨⟨by decide +kernel, by decide +kernel⟩, List.mem_of_getElem? (i := 909) (by decide +kernel), List.mem_of_getElem? (i := 1139) (by decide +kernel), List.mem_of_getElem? (i := 1140) (by decide +kernel)⟩
theorem lw_p54 : lw_okq (⟨"PointMakerModel", "knows", "()V"⟩, 46) := ⟨⟨by decide +kernel, by decide +kernel⟩, List.mem_of_getElem? (i := 909) (by decide +kernel), List.mem_of_getElem? (i := 1143) (by decide +kernel), List.mem_of_getElem? (i := 1144) (by decide +kernel)⟩
theorem lw_p55 : lw_okq (⟨"PointMakerModel", "isUnknown", "(I)Z"⟩, 46) := ⟨⟨by decide +kernel, by decide +kernel⟩, List.mem_of_getElem? (i := 909) (by decide +kernel), List.mem_of_getElem? (i := 1147) (by decide +kernel), List.mem_of_getElem? (i := 1148) (by decide +kernel)⟩
theorem lw_p56 : lw_okq (⟨"PointMakerModel", "reads", "()V"⟩, 46) := ⟨⟨by decide +kernel, by decide +kernel⟩, List.mem_of_getElem? (i := 909) (by decide +kernel), List.mem_of_getElem? (i := 1151) (by decide +kernel), List.mem_of_getElem? (i := 1152) (by decide +kernel)⟩
theorem lw_p57 : lw_okq (⟨"PointMakerModel", "readIn", "(I)I"⟩, 46) := ⟨⟨by decide +kernel, by decide +kernel⟩, List.mem_of_getElem? (i := 909) (by decide +kernel), List.mem_of_getElem? (i := 1155) (by decide +kernel), List.mem_of_getElem? (i := 1156) (by decide +kernel)⟩
theorem lw_p58 : lw_okq (⟨"PointMakerModel", "pointOf", "(I)I"⟩, 46) := ⟨⟨by decide +kernel, by decide +kernel⟩, List.mem_of_getElem? (i := 909) (by decide +kernel), List.mem_of_getElem? (i := 1162) (by decide +kernel), List.mem_of_getElem? (i := 1163) (by decide +kernel)⟩
theorem lw_p59 : lw_okq (⟨"PointMakerModel", "isPointOf", "(II)Z"⟩, 46) := ⟨⟨by decide +kernel, by decide +kernel⟩, List.mem_of_getElem? (i := 909) (by decide +kernel), List.mem_of_getElem? (i := 1166) (by decide +kernel), List.mem_of_getElem? (i := 1167) (by decide +kernel)⟩
theorem lw_p60 : lw_okq (⟨"PointMakerModel", "toldAt", "(II)I"⟩, 46) := ⟨⟨by decide +kernel, by decide +kernel⟩, List.mem_of_getElem? (i := 909) (by decide +kernel), List.mem_of_getElem? (i := 1170) (by decide +kernel), List.mem_of_getElem? (i := 1171) (by decide +kernel)⟩
theorem lw_p61 : lw_okq (⟨"PointMakerModel", "goesThrough", "(I)V"⟩, 46) := ⟨⟨by decide +kernel, by decide +kernel⟩, List.mem_of_getElem? (i := 909) (by decide +kernel), List.mem_of_getElem? (i := 1174) (by decide +kernel), List.mem_of_getElem? (i := 1175) (by decide +kernel)⟩
theorem lw_p62 : lw_okq (⟨"PointMakerModel", "leaves", "(II)V"⟩, 46) := ⟨⟨by decide +kernel, by decide +kernel⟩, List.mem_of_getElem? (i := 909) (by decide +kernel), List.mem_of_getElem? (i := 1178) (by decide +kernel), List.mem_of_getElem? (i := 1179) (by decide +kernel)⟩
theorem lw_p63 : lw_okq (⟨"PointMakerModel", "numberIn", "(I)I"⟩, 46) := ⟨⟨by decide +kernel, by decide +kernel⟩, List.mem_of_getElem? (i := 909) (by decide +kernel), List.mem_of_getElem? (i := 1182) (by decide +kernel), List.mem_of_getElem? (i := 1183) (by decide +kernel)⟩
def lw_privs_4 : List (MethodName × Nat) := [(⟨"PointMakerModel", "operandRead", "()I"⟩, 46), (⟨"PointMakerModel", "numberRead", "(I)I"⟩, 46), (⟨"PointMakerModel", "readEnd", "(II)V"⟩, 46), (⟨"PointMakerModel", "isWhole", "()Z"⟩, 46), (⟨"PointMakerModel", "copies", "(II)V"⟩, 46), (⟨"PointMakerModel", "makes", "()V"⟩, 46), (⟨"PointMakerModel", "knows", "()V"⟩, 46), (⟨"PointMakerModel", "isUnknown", "(I)Z"⟩, 46), (⟨"PointMakerModel", "reads", "()V"⟩, 46), (⟨"PointMakerModel", "readIn", "(I)I"⟩, 46), (⟨"PointMakerModel", "pointOf", "(I)I"⟩, 46), (⟨"PointMakerModel", "isPointOf", "(II)Z"⟩, 46), (⟨"PointMakerModel", "toldAt", "(II)I"⟩, 46), (⟨"PointMakerModel", "goesThrough", "(I)V"⟩, 46), (⟨"PointMakerModel", "leaves", "(II)V"⟩, 46), (⟨"PointMakerModel", "numberIn", "(I)I"⟩, 46)]
theorem lw_r4 : ∀ q ∈ lw_privs_4, lw_okq q := List.forall_mem_cons.mpr ⟨lw_p48, List.forall_mem_cons.mpr ⟨lw_p49, List.forall_mem_cons.mpr ⟨lw_p50, List.forall_mem_cons.mpr ⟨lw_p51, List.forall_mem_cons.mpr ⟨lw_p52, List.forall_mem_cons.mpr ⟨lw_p53, List.forall_mem_cons.mpr ⟨lw_p54, List.forall_mem_cons.mpr ⟨lw_p55, List.forall_mem_cons.mpr ⟨lw_p56, List.forall_mem_cons.mpr ⟨lw_p57, List.forall_mem_cons.mpr ⟨lw_p58, List.forall_mem_cons.mpr ⟨lw_p59, List.forall_mem_cons.mpr ⟨lw_p60, List.forall_mem_cons.mpr ⟨lw_p61, List.forall_mem_cons.mpr ⟨lw_p62, List.forall_mem_cons.mpr ⟨lw_p63, fun _ h => absurd h List.not_mem_nil⟩⟩⟩⟩⟩⟩⟩⟩⟩⟩⟩⟩⟩⟩⟩⟩
theorem lw_p64 : lw_okq (⟨"PointMakerModel", "leftOperand", "(I)I"⟩, 46) := ⟨⟨by decide +kernel, by decide +kernel⟩, List.mem_of_getElem? (i := 909) (by decide +kernel), List.mem_of_getElem? (i := 1189) (by decide +kernel), List.mem_of_getElem? (i := 1190) (by decide +kernel)⟩
theorem lw_p65 : lw_okq (⟨"PointMakerModel", "givenBits", "()I"⟩, 46) := ⟨⟨by decide +kernel, by decide +kernel⟩, List.mem_of_getElem? (i := 909) (by decide +kernel), List.mem_of_getElem? (i := 1193) (by decide +kernel), List.mem_of_getElem? (i := 1194) (by decide +kernel)⟩
theorem lw_p66 : lw_okq (⟨"PointMakerModel", "allOf", "(Z)I"⟩, 46) := ⟨⟨by decide +kernel, by decide +kernel⟩, List.mem_of_getElem? (i := 909) (by decide +kernel), List.mem_of_getElem? (i := 1197) (by decide +kernel), List.mem_of_getElem? (i := 1198) (by decide +kernel)⟩
theorem lw_p67 : lw_okq (⟨"PointMakerModel", "shownOf", "(I)I"⟩, 46) := ⟨⟨by decide +kernel, by decide +kernel⟩, List.mem_of_getElem? (i := 909) (by decide +kernel), List.mem_of_getElem? (i := 1201) (by decide +kernel), List.mem_of_getElem? (i := 1202) (by decide +kernel)⟩
theorem lw_p68 : lw_okq (⟨"PointMakerModel", "shows", "(I)V"⟩, 46) := ⟨⟨by decide +kernel, by decide +kernel⟩, List.mem_of_getElem? (i := 909) (by decide +kernel), List.mem_of_getElem? (i := 1205) (by decide +kernel), List.mem_of_getElem? (i := 1206) (by decide +kernel)⟩
theorem lw_p69 : lw_okq (⟨"PointMakerModel", "showsNumber", "(I)V"⟩, 46) := ⟨⟨by decide +kernel, by decide +kernel⟩, List.mem_of_getElem? (i := 909) (by decide +kernel), List.mem_of_getElem? (i := 1209) (by decide +kernel), List.mem_of_getElem? (i := 1210) (by decide +kernel)⟩
theorem lw_p70 : lw_okq (⟨"PointMakerModel", "showsStep", "(I)V"⟩, 46) := ⟨⟨by decide +kernel, by decide +kernel⟩, List.mem_of_getElem? (i := 909) (by decide +kernel), List.mem_of_getElem? (i := 1213) (by decide +kernel), List.mem_of_getElem? (i := 1214) (by decide +kernel)⟩
theorem lw_p71 : lw_okq (⟨"PointMakerModel", "showsWord", "(I)V"⟩, 46) := ⟨⟨by decide +kernel, by decide +kernel⟩, List.mem_of_getElem? (i := 909) (by decide +kernel), List.mem_of_getElem? (i := 1217) (by decide +kernel), List.mem_of_getElem? (i := 1218) (by decide +kernel)⟩
theorem lw_p72 : lw_okq (⟨"PointMakerModel", "showsOperand", "(I)V"⟩, 46) := ⟨⟨by decide +kernel, by decide +kernel⟩, List.mem_of_getElem? (i := 909) (by decide +kernel), List.mem_of_getElem? (i := 1221) (by decide +kernel), List.mem_of_getElem? (i := 1222) (by decide +kernel)⟩
theorem lw_p73 : lw_okq (⟨"PointMakerModel", "showsPoint", "(I)V"⟩, 46) := ⟨⟨by decide +kernel, by decide +kernel⟩, List.mem_of_getElem? (i := 909) (by decide +kernel), List.mem_of_getElem? (i := 1225) (by decide +kernel), List.mem_of_getElem? (i := 1226) (by decide +kernel)⟩
theorem lw_p74 : lw_okq (⟨"PointMakerModel", "isBlock", "(I)Z"⟩, 46) := ⟨⟨by decide +kernel, by decide +kernel⟩, List.mem_of_getElem? (i := 909) (by decide +kernel), List.mem_of_getElem? (i := 1233) (by decide +kernel), List.mem_of_getElem? (i := 1234) (by decide +kernel)⟩
theorem lw_p75 : lw_okq (⟨"PointMakerModel", "isStep", "(I)Z"⟩, 46) := ⟨⟨by decide +kernel, by decide +kernel⟩, List.mem_of_getElem? (i := 909) (by decide +kernel), List.mem_of_getElem? (i := 1241) (by decide +kernel), List.mem_of_getElem? (i := 1242) (by decide +kernel)⟩
theorem lw_p76 : lw_okq (⟨"PointMakerModel", "isPoint", "(I)Z"⟩, 46) := ⟨⟨by decide +kernel, by decide +kernel⟩, List.mem_of_getElem? (i := 909) (by decide +kernel), List.mem_of_getElem? (i := 1263) (by decide +kernel), List.mem_of_getElem? (i := 1264) (by decide +kernel)⟩
theorem lw_p77 : lw_okq (⟨"PointMakerModel", "leadsTo", "(I)I"⟩, 46) := ⟨⟨by decide +kernel, by decide +kernel⟩, List.mem_of_getElem? (i := 909) (by decide +kernel), List.mem_of_getElem? (i := 1267) (by decide +kernel), List.mem_of_getElem? (i := 1268) (by decide +kernel)⟩
theorem lw_p78 : lw_okq (⟨"PointMakerModel", "becomesBegin", "(II)I"⟩, 46) := ⟨⟨by decide +kernel, by decide +kernel⟩, List.mem_of_getElem? (i := 909) (by decide +kernel), List.mem_of_getElem? (i := 1291) (by decide +kernel), List.mem_of_getElem? (i := 1292) (by decide +kernel)⟩
theorem lw_p79 : lw_okq (⟨"PointMakerModel", "drawsBegins", "()V"⟩, 46) := ⟨⟨by decide +kernel, by decide +kernel⟩, List.mem_of_getElem? (i := 909) (by decide +kernel), List.mem_of_getElem? (i := 1299) (by decide +kernel), List.mem_of_getElem? (i := 1300) (by decide +kernel)⟩
def lw_privs_5 : List (MethodName × Nat) := [(⟨"PointMakerModel", "leftOperand", "(I)I"⟩, 46), (⟨"PointMakerModel", "givenBits", "()I"⟩, 46), (⟨"PointMakerModel", "allOf", "(Z)I"⟩, 46), (⟨"PointMakerModel", "shownOf", "(I)I"⟩, 46), (⟨"PointMakerModel", "shows", "(I)V"⟩, 46), (⟨"PointMakerModel", "showsNumber", "(I)V"⟩, 46), (⟨"PointMakerModel", "showsStep", "(I)V"⟩, 46), (⟨"PointMakerModel", "showsWord", "(I)V"⟩, 46), (⟨"PointMakerModel", "showsOperand", "(I)V"⟩, 46), (⟨"PointMakerModel", "showsPoint", "(I)V"⟩, 46), (⟨"PointMakerModel", "isBlock", "(I)Z"⟩, 46), (⟨"PointMakerModel", "isStep", "(I)Z"⟩, 46), (⟨"PointMakerModel", "isPoint", "(I)Z"⟩, 46), (⟨"PointMakerModel", "leadsTo", "(I)I"⟩, 46), (⟨"PointMakerModel", "becomesBegin", "(II)I"⟩, 46), (⟨"PointMakerModel", "drawsBegins", "()V"⟩, 46)]
theorem lw_r5 : ∀ q ∈ lw_privs_5, lw_okq q := List.forall_mem_cons.mpr ⟨lw_p64, List.forall_mem_cons.mpr ⟨lw_p65, List.forall_mem_cons.mpr ⟨lw_p66, List.forall_mem_cons.mpr ⟨lw_p67, List.forall_mem_cons.mpr ⟨lw_p68, List.forall_mem_cons.mpr ⟨lw_p69, List.forall_mem_cons.mpr ⟨lw_p70, List.forall_mem_cons.mpr ⟨lw_p71, List.forall_mem_cons.mpr ⟨lw_p72, List.forall_mem_cons.mpr ⟨lw_p73, List.forall_mem_cons.mpr ⟨lw_p74, List.forall_mem_cons.mpr ⟨lw_p75, List.forall_mem_cons.mpr ⟨lw_p76, List.forall_mem_cons.mpr ⟨lw_p77, List.forall_mem_cons.mpr ⟨lw_p78, List.forall_mem_cons.mpr ⟨lw_p79, fun _ h => absurd h List.not_mem_nil⟩⟩⟩⟩⟩⟩⟩⟩⟩⟩⟩⟩⟩⟩⟩⟩
theorem lw_p80 : lw_okq (⟨"PointMakerModel", "runsProgram", "()V"⟩, 46) := ⟨⟨by decide +kernel, by decide +kernel⟩, List.mem_of_getElem? (i := 909) (by decide +kernel), List.mem_of_getElem? (i := 1303) (by decide +kernel), List.mem_of_getElem? (i := 1304) (by decide +kernel)⟩
theorem lw_p81 : lw_okq (⟨"PointMakerModel", "startsRun", "()V"⟩, 46) := ⟨⟨by decide +kernel, by decide +kernel⟩, List.mem_of_getElem? (i := 909) (by decide +kernel), List.mem_of_getElem? (i := 1307) (by decide +kernel), List.mem_of_getElem? (i := 1308) (by decide +kernel)⟩
theorem lw_p82 : lw_okq (⟨"PointMakerModel", "does", "(IIIII)V"⟩, 46) := ⟨⟨by decide +kernel, by decide +kernel⟩, List.mem_of_getElem? (i := 909) (by decide +kernel), List.mem_of_getElem? (i := 1311) (by decide +kernel), List.mem_of_getElem? (i := 1312) (by decide +kernel)⟩
theorem lw_p83 : lw_okq (⟨"PointMakerModel", "valueIn", "(I)I"⟩, 46) := ⟨⟨by decide +kernel, by decide +kernel⟩, List.mem_of_getElem? (i := 909) (by decide +kernel), List.mem_of_getElem? (i := 1315) (by decide +kernel), List.mem_of_getElem? (i := 1316) (by decide +kernel)⟩
theorem lw_p84 : lw_okq (⟨"PointMakerModel", "isLatest", "()I"⟩, 46) := ⟨⟨by decide +kernel, by decide +kernel⟩, List.mem_of_getElem? (i := 909) (by decide +kernel), List.mem_of_getElem? (i := 1319) (by decide +kernel), List.mem_of_getElem? (i := 1320) (by decide +kernel)⟩
theorem lw_p85 : lw_okq (⟨"PointMakerModel", "runsLeft", "()V"⟩, 46) := ⟨⟨by decide +kernel, by decide +kernel⟩, List.mem_of_getElem? (i := 909) (by decide +kernel), List.mem_of_getElem? (i := 1327) (by decide +kernel), List.mem_of_getElem? (i := 1328) (by decide +kernel)⟩
theorem lw_p86 : lw_okq (⟨"PointMakerModel", "isAlikeEnd", "()Z"⟩, 46) := ⟨⟨by decide +kernel, by decide +kernel⟩, List.mem_of_getElem? (i := 909) (by decide +kernel), List.mem_of_getElem? (i := 1344) (by decide +kernel), List.mem_of_getElem? (i := 1345) (by decide +kernel)⟩
theorem lw_p87 : lw_okq (⟨"PointMakerModel", "puts", "(ZII)I"⟩, 46) := ⟨⟨by decide +kernel, by decide +kernel⟩, List.mem_of_getElem? (i := 909) (by decide +kernel), List.mem_of_getElem? (i := 1357) (by decide +kernel), List.mem_of_getElem? (i := 1358) (by decide +kernel)⟩
theorem lw_p88 : lw_okq (⟨"PointMakerModel", "setsAside", "(Z)V"⟩, 46) := ⟨⟨by decide +kernel, by decide +kernel⟩, List.mem_of_getElem? (i := 909) (by decide +kernel), List.mem_of_getElem? (i := 1386) (by decide +kernel), List.mem_of_getElem? (i := 1387) (by decide +kernel)⟩
def lw_privs_6 : List (MethodName × Nat) := [(⟨"PointMakerModel", "runsProgram", "()V"⟩, 46), (⟨"PointMakerModel", "startsRun", "()V"⟩, 46), (⟨"PointMakerModel", "does", "(IIIII)V"⟩, 46), (⟨"PointMakerModel", "valueIn", "(I)I"⟩, 46), (⟨"PointMakerModel", "isLatest", "()I"⟩, 46), (⟨"PointMakerModel", "runsLeft", "()V"⟩, 46), (⟨"PointMakerModel", "isAlikeEnd", "()Z"⟩, 46), (⟨"PointMakerModel", "puts", "(ZII)I"⟩, 46), (⟨"PointMakerModel", "setsAside", "(Z)V"⟩, 46)]
theorem lw_r6 : ∀ q ∈ lw_privs_6, lw_okq q := List.forall_mem_cons.mpr ⟨lw_p80, List.forall_mem_cons.mpr ⟨lw_p81, List.forall_mem_cons.mpr ⟨lw_p82, List.forall_mem_cons.mpr ⟨lw_p83, List.forall_mem_cons.mpr ⟨lw_p84, List.forall_mem_cons.mpr ⟨lw_p85, List.forall_mem_cons.mpr ⟨lw_p86, List.forall_mem_cons.mpr ⟨lw_p87, List.forall_mem_cons.mpr ⟨lw_p88, fun _ h => absurd h List.not_mem_nil⟩⟩⟩⟩⟩⟩⟩⟩⟩
def lw_privs : List (MethodName × Nat) := lw_privs_1 ++ (lw_privs_2 ++ (lw_privs_3 ++ (lw_privs_4 ++ (lw_privs_5 ++ (lw_privs_6)))))
def lw_tbl : List Cond := k2_sels lw_privs ++ tables_1
theorem lw_privs_ok : ∀ q ∈ lw_privs, lw_okq q := by
  show ∀ q ∈ lw_privs_1 ++ (lw_privs_2 ++ (lw_privs_3 ++ (lw_privs_4 ++ (lw_privs_5 ++ (lw_privs_6))))), lw_okq q
  exact List.forall_mem_append.mpr ⟨lw_r1, List.forall_mem_append.mpr ⟨lw_r2, List.forall_mem_append.mpr ⟨lw_r3, List.forall_mem_append.mpr ⟨lw_r4, List.forall_mem_append.mpr ⟨lw_r5, lw_r6⟩⟩⟩⟩⟩
end
section
-- names, fields, methods: as the claim prints them (claim/NAMES.whole.lean.txt)
def RX0 : String := "PointMaker$Division"
def TX0 : u_T := fun k => match k with
  | 0 => ("PointMaker$Division", "ahead", "[I", true)
  | _ => ("PointMaker$Division", "unknown", "I", false)
def tyX0 : Nat → FieldType := fun k => match k with
  | 0 => .array .int
  | _ => .int
abbrev wsX00 : List Cond := u_ws RX0 TX0 2
theorem nmX0 : ∀ a, a < 2 → ∀ b, b < 2 → a ≠ b → (TX0 a).2.1 ≠ (TX0 b).2.1 := by decide +kernel
theorem tyX0_ok : ∀ k, k < 2 → parseFieldDescriptor (TX0 k).2.2.1 = some (tyX0 k) := by decide +kernel
abbrev cX0_init : ByteArray := prog_2_method_1_code
def yX0_init : MethodName := ⟨RX0, "<init>", "()V"⟩
abbrev cX0_find : ByteArray := prog_2_method_2_code
def yX0_find : MethodName := ⟨RX0, "find", "(LPointMaker$Program;)V"⟩
abbrev cX0_spreadsUnknown : ByteArray := prog_2_method_3_code
def yX0_spreadsUnknown : MethodName := ⟨RX0, "spreadsUnknown", "(LPointMaker$Web;)Z"⟩
abbrev cX0_spreadsAhead : ByteArray := prog_2_method_4_code
def yX0_spreadsAhead : MethodName := ⟨RX0, "spreadsAhead", "(LPointMaker$Web;)Z"⟩
abbrev cX0_aheadOfSteps : ByteArray := prog_2_method_5_code
def yX0_aheadOfSteps : MethodName := ⟨RX0, "aheadOfSteps", "(LPointMaker$Web;II)I"⟩
abbrev cX0_aheadAt : ByteArray := prog_2_method_6_code
def yX0_aheadAt : MethodName := ⟨RX0, "aheadAt", "(I)I"⟩
abbrev cX0_operandBits : ByteArray := prog_2_method_7_code
def yX0_operandBits : MethodName := ⟨RX0, "operandBits", "(LPointMaker$Web;I)I"⟩
def RX1 : String := "PointMaker$Letters"
def TX1 : u_T := fun k => match k with
  | 0 => ("PointMaker$Letters", "row", "[B", true)
  | _ => ("PointMaker$Letters", "length", "I", false)
def tyX1 : Nat → FieldType := fun k => match k with
  | 0 => .array .byte
  | _ => .int
abbrev wsX10 : List Cond := u_ws RX1 TX1 2
theorem nmX1 : ∀ a, a < 2 → ∀ b, b < 2 → a ≠ b → (TX1 a).2.1 ≠ (TX1 b).2.1 := by decide +kernel
theorem tyX1_ok : ∀ k, k < 2 → parseFieldDescriptor (TX1 k).2.2.1 = some (tyX1 k) := by decide +kernel
abbrev cX1_init : ByteArray := prog_3_method_1_code
def yX1_init : MethodName := ⟨RX1, "<init>", "()V"⟩
abbrev cX1_at : ByteArray := prog_3_method_2_code
def yX1_at : MethodName := ⟨RX1, "at", "(I)I"⟩
abbrev cX1_add : ByteArray := prog_3_method_3_code
def yX1_add : MethodName := ⟨RX1, "add", "(I)V"⟩
abbrev cX1_addWord : ByteArray := prog_3_method_4_code
def yX1_addWord : MethodName := ⟨RX1, "addWord", "(Ljava/lang/String;)V"⟩
abbrev cX1_addNumber : ByteArray := prog_3_method_5_code
def yX1_addNumber : MethodName := ⟨RX1, "addNumber", "(I)V"⟩
abbrev cX1_addOperand : ByteArray := prog_3_method_6_code
def yX1_addOperand : MethodName := ⟨RX1, "addOperand", "(I)V"⟩
abbrev cX1_addPlace : ByteArray := prog_3_method_7_code
def yX1_addPlace : MethodName := ⟨RX1, "addPlace", "(I)V"⟩
abbrev cX1_writePoint : ByteArray := prog_3_method_8_code
def yX1_writePoint : MethodName := ⟨RX1, "writePoint", "(LPointMaker$Web;I)V"⟩
abbrev cX1_writeStep : ByteArray := prog_3_method_9_code
def yX1_writeStep : MethodName := ⟨RX1, "writeStep", "(LPointMaker$Web;I)V"⟩
abbrev cX1_addStep : ByteArray := prog_3_method_10_code
def yX1_addStep : MethodName := ⟨RX1, "addStep", "(LPointMaker$Web;I)V"⟩
abbrev cX1_addEnding : ByteArray := prog_3_method_11_code
def yX1_addEnding : MethodName := ⟨RX1, "addEnding", "(LPointMaker$Web;I)V"⟩
abbrev cX1_find : ByteArray := prog_3_method_12_code
def yX1_find : MethodName := ⟨RX1, "find", "(LPointMaker$Letters;I)I"⟩
abbrev cX1_hasAt : ByteArray := prog_3_method_13_code
def yX1_hasAt : MethodName := ⟨RX1, "hasAt", "(LPointMaker$Letters;I)Z"⟩
def RX2 : String := "PointMaker$Points"
def TX2 : u_T := fun k => match k with
  | 0 => ("PointMaker$Points", "division", "LPointMaker$Division;", true)
  | 1 => ("PointMaker$Points", "web", "LPointMaker$Web;", true)
  | 2 => ("PointMaker$Points", "blockOf", "[I", true)
  | 3 => ("PointMaker$Points", "leader", "[I", true)
  | 4 => ("PointMaker$Points", "values", "[I", true)
  | 5 => ("PointMaker$Points", "tooMany", "Z", false)
  | 6 => ("PointMaker$Points", "now", "[I", true)
  | _ => ("PointMaker$Points", "sought", "[I", true)
def tyX2 : Nat → FieldType := fun k => match k with
  | 0 => .object "PointMaker$Division"
  | 1 => .object "PointMaker$Web"
  | 2 => .array .int
  | 3 => .array .int
  | 4 => .array .int
  | 5 => .boolean
  | 6 => .array .int
  | _ => .array .int
abbrev wsX20 : List Cond := u_ws RX2 TX2 8
theorem nmX2 : ∀ a, a < 8 → ∀ b, b < 8 → a ≠ b → (TX2 a).2.1 ≠ (TX2 b).2.1 := by decide +kernel
theorem tyX2_ok : ∀ k, k < 8 → parseFieldDescriptor (TX2 k).2.2.1 = some (tyX2 k) := by decide +kernel
abbrev cX2_init : ByteArray := prog_4_method_1_code
def yX2_init : MethodName := ⟨RX2, "<init>", "()V"⟩
abbrev cX2_find : ByteArray := prog_4_method_2_code
def yX2_find : MethodName := ⟨RX2, "find", "(LPointMaker$Program;)V"⟩
abbrev cX2_meet : ByteArray := prog_4_method_3_code
def yX2_meet : MethodName := ⟨RX2, "meet", "(LPointMaker$Program;II)I"⟩
abbrev cX2_seek : ByteArray := prog_4_method_4_code
def yX2_seek : MethodName := ⟨RX2, "seek", "(II)V"⟩
abbrev cX2_findAlike : ByteArray := prog_4_method_5_code
def yX2_findAlike : MethodName := ⟨RX2, "findAlike", "(I)I"⟩
abbrev cX2_specialise : ByteArray := prog_4_method_6_code
def yX2_specialise : MethodName := ⟨RX2, "specialise", "(LPointMaker$Program;I)V"⟩
abbrev cX2_doOrLeave : ByteArray := prog_4_method_7_code
def yX2_doOrLeave : MethodName := ⟨RX2, "doOrLeave", "(LPointMaker$Web;II)V"⟩
abbrev cX2_asKnown : ByteArray := prog_4_method_8_code
def yX2_asKnown : MethodName := ⟨RX2, "asKnown", "(I)I"⟩
abbrev cX2_leadOn : ByteArray := prog_4_method_9_code
def yX2_leadOn : MethodName := ⟨RX2, "leadOn", "(LPointMaker$Program;II)V"⟩
def RX3 : String := "PointMaker$Program"
def TX3 : u_T := fun k => match k with
  | 0 => ("PointMaker$Program", "web", "LPointMaker$Web;", true)
  | 1 => ("PointMaker$Program", "given", "[I", true)
  | _ => ("PointMaker$Program", "wise", "I", false)
def tyX3 : Nat → FieldType := fun k => match k with
  | 0 => .object "PointMaker$Web"
  | 1 => .array .int
  | _ => .int
abbrev wsX30 : List Cond := u_ws RX3 TX3 3
theorem nmX3 : ∀ a, a < 3 → ∀ b, b < 3 → a ≠ b → (TX3 a).2.1 ≠ (TX3 b).2.1 := by decide +kernel
theorem tyX3_ok : ∀ k, k < 3 → parseFieldDescriptor (TX3 k).2.2.1 = some (tyX3 k) := by decide +kernel
abbrev cX3_init : ByteArray := prog_5_method_1_code
def yX3_init : MethodName := ⟨RX3, "<init>", "()V"⟩
abbrev cX3_become : ByteArray := prog_5_method_2_code
def yX3_become : MethodName := ⟨RX3, "become", "(LPointMaker$Web;)V"⟩
abbrev cX3_forgetGiven : ByteArray := prog_5_method_3_code
def yX3_forgetGiven : MethodName := ⟨RX3, "forgetGiven", "()V"⟩
abbrev cX3_givenBits : ByteArray := prog_5_method_4_code
def yX3_givenBits : MethodName := ⟨RX3, "givenBits", "()I"⟩
abbrev cX3_copyFrom : ByteArray := prog_5_method_5_code
def yX3_copyFrom : MethodName := ⟨RX3, "copyFrom", "(LPointMaker$Program;)V"⟩
def RX4 : String := "PointMaker$Reader"
def TX4 : u_T := fun k => match k with
  | 0 => ("PointMaker$Reader", "tape", "LPointMaker$Tape;", true)
  | 1 => ("PointMaker$Reader", "draft", "LPointMaker$Web;", true)
  | 2 => ("PointMaker$Reader", "fault", "I", false)
  | 3 => ("PointMaker$Reader", "place", "I", false)
  | 4 => ("PointMaker$Reader", "sort", "I", false)
  | 5 => ("PointMaker$Reader", "start", "I", false)
  | 6 => ("PointMaker$Reader", "next", "I", false)
  | _ => ("PointMaker$Reader", "number", "I", false)
def tyX4 : Nat → FieldType := fun k => match k with
  | 0 => .object "PointMaker$Tape"
  | 1 => .object "PointMaker$Web"
  | 2 => .int
  | 3 => .int
  | 4 => .int
  | 5 => .int
  | 6 => .int
  | _ => .int
abbrev wsX40 : List Cond := u_ws RX4 TX4 8
theorem nmX4 : ∀ a, a < 8 → ∀ b, b < 8 → a ≠ b → (TX4 a).2.1 ≠ (TX4 b).2.1 := by decide +kernel
theorem tyX4_ok : ∀ k, k < 8 → parseFieldDescriptor (TX4 k).2.2.1 = some (tyX4 k) := by decide +kernel
abbrev cX4_init : ByteArray := prog_6_method_1_code
def yX4_init : MethodName := ⟨RX4, "<init>", "()V"⟩
abbrev cX4_takesTape : ByteArray := prog_6_method_2_code
def yX4_takesTape : MethodName := ⟨RX4, "takesTape", "()Z"⟩
abbrev cX4_refuse : ByteArray := prog_6_method_3_code
def yX4_refuse : MethodName := ⟨RX4, "refuse", "(II)Z"⟩
abbrev cX4_advance : ByteArray := prog_6_method_4_code
def yX4_advance : MethodName := ⟨RX4, "advance", "()Z"⟩
abbrev cX4_sortOf : ByteArray := prog_6_method_5_code
def yX4_sortOf : MethodName := ⟨RX4, "sortOf", "(I)I"⟩
abbrev cX4_isWord : ByteArray := prog_6_method_6_code
def yX4_isWord : MethodName := ⟨RX4, "isWord", "(Ljava/lang/String;)Z"⟩
abbrev cX4_variableHere : ByteArray := prog_6_method_7_code
def yX4_variableHere : MethodName := ⟨RX4, "variableHere", "()I"⟩
abbrev cX4_operandHere : ByteArray := prog_6_method_8_code
def yX4_operandHere : MethodName := ⟨RX4, "operandHere", "()I"⟩
abbrev cX4_opHere : ByteArray := prog_6_method_9_code
def yX4_opHere : MethodName := ⟨RX4, "opHere", "()I"⟩
abbrev cX4_take : ByteArray := prog_6_method_10_code
def yX4_take : MethodName := ⟨RX4, "take", "(I)I"⟩
abbrev cX4_takeBlockNumber : ByteArray := prog_6_method_11_code
def yX4_takeBlockNumber : MethodName := ⟨RX4, "takeBlockNumber", "()I"⟩
abbrev cX4_takesSemicolon : ByteArray := prog_6_method_12_code
def yX4_takesSemicolon : MethodName := ⟨RX4, "takesSemicolon", "()Z"⟩
abbrev cX4_takesBlock : ByteArray := prog_6_method_13_code
def yX4_takesBlock : MethodName := ⟨RX4, "takesBlock", "()Z"⟩
abbrev cX4_takesSet : ByteArray := prog_6_method_14_code
def yX4_takesSet : MethodName := ⟨RX4, "takesSet", "()Z"⟩
abbrev cX4_takesSay : ByteArray := prog_6_method_15_code
def yX4_takesSay : MethodName := ⟨RX4, "takesSay", "()Z"⟩
abbrev cX4_takesEnd : ByteArray := prog_6_method_16_code
def yX4_takesEnd : MethodName := ⟨RX4, "takesEnd", "()Z"⟩
abbrev cX4_takesGoto : ByteArray := prog_6_method_17_code
def yX4_takesGoto : MethodName := ⟨RX4, "takesGoto", "()Z"⟩
abbrev cX4_takesIf : ByteArray := prog_6_method_18_code
def yX4_takesIf : MethodName := ⟨RX4, "takesIf", "()Z"⟩
abbrev cX4_leadsToBlocks : ByteArray := prog_6_method_19_code
def yX4_leadsToBlocks : MethodName := ⟨RX4, "leadsToBlocks", "()Z"⟩
def RX5 : String := "PointMaker$Run"
def TX5 : u_T := fun k => match k with
  | 0 => ("PointMaker$Run", "values", "[I", true)
  | 1 => ("PointMaker$Run", "said", "I", false)
  | 2 => ("PointMaker$Run", "sayings", "I", false)
  | 3 => ("PointMaker$Run", "way", "I", false)
  | 4 => ("PointMaker$Run", "steps", "I", false)
  | _ => ("PointMaker$Run", "stopped", "Z", false)
def tyX5 : Nat → FieldType := fun k => match k with
  | 0 => .array .int
  | 1 => .int
  | 2 => .int
  | 3 => .int
  | 4 => .int
  | _ => .boolean
abbrev wsX50 : List Cond := u_ws RX5 TX5 6
theorem nmX5 : ∀ a, a < 6 → ∀ b, b < 6 → a ≠ b → (TX5 a).2.1 ≠ (TX5 b).2.1 := by decide +kernel
theorem tyX5_ok : ∀ k, k < 6 → parseFieldDescriptor (TX5 k).2.2.1 = some (tyX5 k) := by decide +kernel
abbrev cX5_init : ByteArray := prog_7_method_1_code
def yX5_init : MethodName := ⟨RX5, "<init>", "()V"⟩
abbrev cX5_go : ByteArray := prog_7_method_2_code
def yX5_go : MethodName := ⟨RX5, "go", "(LPointMaker$Web;[I[II)V"⟩
abbrev cX5_doSteps : ByteArray := prog_7_method_3_code
def yX5_doSteps : MethodName := ⟨RX5, "doSteps", "(LPointMaker$Web;I)V"⟩
abbrev cX5_onward : ByteArray := prog_7_method_4_code
def yX5_onward : MethodName := ⟨RX5, "onward", "(LPointMaker$Web;I)I"⟩
def RX6 : String := "PointMaker$Sheet"
def TX6 : u_T := fun k => match k with
  | 0 => ("PointMaker$Sheet", "cells", "[I", true)
  | 1 => ("PointMaker$Sheet", "lane", "I", false)
  | _ => ("PointMaker$Sheet", "length", "I", false)
def tyX6 : Nat → FieldType := fun k => match k with
  | 0 => .array .int
  | 1 => .int
  | _ => .int
abbrev wsX60 : List Cond := u_ws RX6 TX6 3
theorem nmX6 : ∀ a, a < 3 → ∀ b, b < 3 → a ≠ b → (TX6 a).2.1 ≠ (TX6 b).2.1 := by decide +kernel
theorem tyX6_ok : ∀ k, k < 3 → parseFieldDescriptor (TX6 k).2.2.1 = some (tyX6 k) := by decide +kernel
abbrev cX6_init : ByteArray := prog_8_method_1_code
def yX6_init : MethodName := ⟨RX6, "<init>", "()V"⟩
abbrev cX6_renew : ByteArray := prog_8_method_2_code
def yX6_renew : MethodName := ⟨RX6, "renew", "(II)V"⟩
abbrev cX6_faultAt : ByteArray := prog_8_method_3_code
def yX6_faultAt : MethodName := ⟨RX6, "faultAt", "(I)I"⟩
abbrev cX6_faultOfPair : ByteArray := prog_8_method_4_code
def yX6_faultOfPair : MethodName := ⟨RX6, "faultOfPair", "(II)I"⟩
abbrev cX6_cellAt : ByteArray := prog_8_method_5_code
def yX6_cellAt : MethodName := ⟨RX6, "cellAt", "(I)I"⟩
abbrev cX6_put : ByteArray := prog_8_method_6_code
def yX6_put : MethodName := ⟨RX6, "put", "(II)V"⟩
def RX7 : String := "PointMaker$Tape"
def TX7 : u_T := fun k => match k with
  | 0 => ("PointMaker$Tape", "bytes", "[B", true)
  | _ => ("PointMaker$Tape", "length", "I", false)
def tyX7 : Nat → FieldType := fun k => match k with
  | 0 => .array .byte
  | _ => .int
abbrev wsX70 : List Cond := u_ws RX7 TX7 2
theorem nmX7 : ∀ a, a < 2 → ∀ b, b < 2 → a ≠ b → (TX7 a).2.1 ≠ (TX7 b).2.1 := by decide +kernel
theorem tyX7_ok : ∀ k, k < 2 → parseFieldDescriptor (TX7 k).2.2.1 = some (tyX7 k) := by decide +kernel
abbrev cX7_init : ByteArray := prog_9_method_1_code
def yX7_init : MethodName := ⟨RX7, "<init>", "()V"⟩
abbrev cX7_append : ByteArray := prog_9_method_2_code
def yX7_append : MethodName := ⟨RX7, "append", "(I)Z"⟩
abbrev cX7_at : ByteArray := prog_9_method_3_code
def yX7_at : MethodName := ⟨RX7, "at", "(I)I"⟩
def RX8 : String := "PointMaker$Web"
def TX8 : u_T := fun k => match k with
  | 0 => ("PointMaker$Web", "first", "[I", true)
  | 1 => ("PointMaker$Web", "many", "[I", true)
  | 2 => ("PointMaker$Web", "ending", "[I", true)
  | 3 => ("PointMaker$Web", "one", "[I", true)
  | 4 => ("PointMaker$Web", "two", "[I", true)
  | 5 => ("PointMaker$Web", "asked", "[I", true)
  | 6 => ("PointMaker$Web", "parts", "[I", true)
  | 7 => ("PointMaker$Web", "places", "I", false)
  | _ => ("PointMaker$Web", "steps", "I", false)
def tyX8 : Nat → FieldType := fun k => match k with
  | 0 => .array .int
  | 1 => .array .int
  | 2 => .array .int
  | 3 => .array .int
  | 4 => .array .int
  | 5 => .array .int
  | 6 => .array .int
  | 7 => .int
  | _ => .int
abbrev wsX80 : List Cond := u_ws RX8 TX8 9
theorem nmX8 : ∀ a, a < 9 → ∀ b, b < 9 → a ≠ b → (TX8 a).2.1 ≠ (TX8 b).2.1 := by decide +kernel
theorem tyX8_ok : ∀ k, k < 9 → parseFieldDescriptor (TX8 k).2.2.1 = some (tyX8 k) := by decide +kernel
abbrev cX8_init : ByteArray := prog_10_method_1_code
def yX8_init : MethodName := ⟨RX8, "<init>", "(II)V"⟩
abbrev cX8_clear : ByteArray := prog_10_method_2_code
def yX8_clear : MethodName := ⟨RX8, "clear", "()V"⟩
abbrev cX8_open : ByteArray := prog_10_method_3_code
def yX8_open : MethodName := ⟨RX8, "open", "()Z"⟩
abbrev cX8_startSteps : ByteArray := prog_10_method_4_code
def yX8_startSteps : MethodName := ⟨RX8, "startSteps", "(I)V"⟩
abbrev cX8_append : ByteArray := prog_10_method_5_code
def yX8_append : MethodName := ⟨RX8, "append", "(IIIIII)Z"⟩
abbrev cX8_close : ByteArray := prog_10_method_6_code
def yX8_close : MethodName := ⟨RX8, "close", "(IIIII)V"⟩
abbrev cX8_isPlace : ByteArray := prog_10_method_7_code
def yX8_isPlace : MethodName := ⟨RX8, "isPlace", "(I)Z"⟩
abbrev cX8_placePart : ByteArray := prog_10_method_8_code
def yX8_placePart : MethodName := ⟨RX8, "placePart", "(II)I"⟩
abbrev cX8_setPlacePart : ByteArray := prog_10_method_9_code
def yX8_setPlacePart : MethodName := ⟨RX8, "setPlacePart", "(III)V"⟩
abbrev cX8_stepPart : ByteArray := prog_10_method_10_code
def yX8_stepPart : MethodName := ⟨RX8, "stepPart", "(II)I"⟩
abbrev cX8_setStepPart : ByteArray := prog_10_method_11_code
def yX8_setStepPart : MethodName := ⟨RX8, "setStepPart", "(III)V"⟩
abbrev cX8_copyFrom : ByteArray := prog_10_method_12_code
def yX8_copyFrom : MethodName := ⟨RX8, "copyFrom", "(LPointMaker$Web;)V"⟩
def RX9 : String := "PointMaker"
def TX9 : u_T := fun k => match k with
  | 0 => ("PointMaker", "reader", "LPointMaker$Reader;", true)
  | 1 => ("PointMaker", "program", "LPointMaker$Program;", true)
  | 2 => ("PointMaker", "images", "[LPointMaker$Program;", true)
  | 3 => ("PointMaker", "kept", "[Z", true)
  | 4 => ("PointMaker", "points", "LPointMaker$Points;", true)
  | 5 => ("PointMaker", "pointLetters", "LPointMaker$Letters;", true)
  | 6 => ("PointMaker", "stepLetters", "LPointMaker$Letters;", true)
  | 7 => ("PointMaker", "latest", "LPointMaker$Run;", true)
  | 8 => ("PointMaker", "whole", "LPointMaker$Run;", true)
  | 9 => ("PointMaker", "rest", "LPointMaker$Run;", true)
  | 10 => ("PointMaker", "starts", "[I", true)
  | 11 => ("PointMaker", "drawn", "[I", true)
  | 12 => ("PointMaker", "sheets", "[LPointMaker$Sheet;", true)
  | 13 => ("PointMaker", "tornBy", "I", false)
  | 14 => ("PointMaker", "writtenPoint", "I", false)
  | 15 => ("PointMaker", "hasRun", "Z", false)
  | _ => ("PointMaker", "stale", "Z", false)
def tyX9 : Nat → FieldType := fun k => match k with
  | 0 => .object "PointMaker$Reader"
  | 1 => .object "PointMaker$Program"
  | 2 => .array (.object "PointMaker$Program")
  | 3 => .array .boolean
  | 4 => .object "PointMaker$Points"
  | 5 => .object "PointMaker$Letters"
  | 6 => .object "PointMaker$Letters"
  | 7 => .object "PointMaker$Run"
  | 8 => .object "PointMaker$Run"
  | 9 => .object "PointMaker$Run"
  | 10 => .array .int
  | 11 => .array .int
  | 12 => .array (.object "PointMaker$Sheet")
  | 13 => .int
  | 14 => .int
  | 15 => .boolean
  | _ => .boolean
abbrev wsX90 : List Cond := u_ws RX9 TX9 17
theorem nmX9 : ∀ a, a < 17 → ∀ b, b < 17 → a ≠ b → (TX9 a).2.1 ≠ (TX9 b).2.1 := by decide +kernel
theorem tyX9_ok : ∀ k, k < 17 → parseFieldDescriptor (TX9 k).2.2.1 = some (tyX9 k) := by decide +kernel
abbrev cX9_init : ByteArray := prog_1_method_1_code
def yX9_init : MethodName := ⟨RX9, "<init>", "()V"⟩
abbrev cX9_feed : ByteArray := prog_1_method_2_code
def yX9_feed : MethodName := ⟨RX9, "feed", "(I)I"⟩
abbrev cX9_end : ByteArray := prog_1_method_3_code
def yX9_end : MethodName := ⟨RX9, "end", "(I)I"⟩
abbrev cX9_text : ByteArray := prog_1_method_4_code
def yX9_text : MethodName := ⟨RX9, "text", "()I"⟩
abbrev cX9_fault : ByteArray := prog_1_method_5_code
def yX9_fault : MethodName := ⟨RX9, "fault", "()I"⟩
abbrev cX9_rule : ByteArray := prog_1_method_6_code
def yX9_rule : MethodName := ⟨RX9, "rule", "(I)I"⟩
abbrev cX9_block : ByteArray := prog_1_method_7_code
def yX9_block : MethodName := ⟨RX9, "block", "(II)I"⟩
abbrev cX9_step : ByteArray := prog_1_method_8_code
def yX9_step : MethodName := ⟨RX9, "step", "(II)I"⟩
abbrev cX9_give : ByteArray := prog_1_method_9_code
def yX9_give : MethodName := ⟨RX9, "give", "(II)I"⟩
abbrev cX9_wise : ByteArray := prog_1_method_10_code
def yX9_wise : MethodName := ⟨RX9, "wise", "(I)I"⟩
abbrev cX9_point : ByteArray := prog_1_method_11_code
def yX9_point : MethodName := ⟨RX9, "point", "(II)I"⟩
abbrev cX9_held : ByteArray := prog_1_method_12_code
def yX9_held : MethodName := ⟨RX9, "held", "(II)I"⟩
abbrev cX9_left : ByteArray := prog_1_method_13_code
def yX9_left : MethodName := ⟨RX9, "left", "(III)I"⟩
abbrev cX9_shown : ByteArray := prog_1_method_14_code
def yX9_shown : MethodName := ⟨RX9, "shown", "(II)I"⟩
abbrev cX9_where : ByteArray := prog_1_method_15_code
def yX9_where : MethodName := ⟨RX9, "where", "(IIII)I"⟩
abbrev cX9_begin : ByteArray := prog_1_method_16_code
def yX9_begin : MethodName := ⟨RX9, "begin", "(II)I"⟩
abbrev cX9_run : ByteArray := prog_1_method_17_code
def yX9_run : MethodName := ⟨RX9, "run", "()I"⟩
abbrev cX9_runLeft : ByteArray := prog_1_method_18_code
def yX9_runLeft : MethodName := ⟨RX9, "runLeft", "()I"⟩
abbrev cX9_told : ByteArray := prog_1_method_19_code
def yX9_told : MethodName := ⟨RX9, "told", "(I)I"⟩
abbrev cX9_agree : ByteArray := prog_1_method_20_code
def yX9_agree : MethodName := ⟨RX9, "agree", "(III)I"⟩
abbrev cX9_alter : ByteArray := prog_1_method_21_code
def yX9_alter : MethodName := ⟨RX9, "alter", "(III)I"⟩
abbrev cX9_lead : ByteArray := prog_1_method_22_code
def yX9_lead : MethodName := ⟨RX9, "lead", "(III)I"⟩
abbrev cX9_keep : ByteArray := prog_1_method_23_code
def yX9_keep : MethodName := ⟨RX9, "keep", "(I)I"⟩
abbrev cX9_back : ByteArray := prog_1_method_24_code
def yX9_back : MethodName := ⟨RX9, "back", "(I)I"⟩
abbrev cX9_sheet : ByteArray := prog_1_method_25_code
def yX9_sheet : MethodName := ⟨RX9, "sheet", "(III)I"⟩
abbrev cX9_lay : ByteArray := prog_1_method_26_code
def yX9_lay : MethodName := ⟨RX9, "lay", "(III)I"⟩
abbrev cX9_read : ByteArray := prog_1_method_27_code
def yX9_read : MethodName := ⟨RX9, "read", "(IIII)I"⟩
abbrev cX9_torn : ByteArray := prog_1_method_28_code
def yX9_torn : MethodName := ⟨RX9, "torn", "()I"⟩
abbrev cX9_count : ByteArray := prog_1_method_29_code
def yX9_count : MethodName := ⟨RX9, "count", "(I)I"⟩
abbrev cX9_refresh : ByteArray := prog_1_method_30_code
def yX9_refresh : MethodName := ⟨RX9, "refresh", "()V"⟩
abbrev cX9_write : ByteArray := prog_1_method_31_code
def yX9_write : MethodName := ⟨RX9, "write", "(I)V"⟩
abbrev cX9_lettersOfAll : ByteArray := prog_1_method_32_code
def yX9_lettersOfAll : MethodName := ⟨RX9, "lettersOfAll", "()I"⟩
abbrev cX9_compareRuns : ByteArray := prog_1_method_33_code
def yX9_compareRuns : MethodName := ⟨RX9, "compareRuns", "(I)I"⟩
abbrev cX9_startsSum : ByteArray := prog_1_method_34_code
def yX9_startsSum : MethodName := ⟨RX9, "startsSum", "()I"⟩
abbrev cX9_numbersSum : ByteArray := prog_1_method_35_code
def yX9_numbersSum : MethodName := ⟨RX9, "numbersSum", "()I"⟩
abbrev cX9_numberOrZero : ByteArray := prog_1_method_36_code
def yX9_numberOrZero : MethodName := ⟨RX9, "numberOrZero", "(I)I"⟩
abbrev cX9_isBlock : ByteArray := prog_1_method_37_code
def yX9_isBlock : MethodName := ⟨RX9, "isBlock", "(I)Z"⟩
abbrev cX9_isPoint : ByteArray := prog_1_method_38_code
def yX9_isPoint : MethodName := ⟨RX9, "isPoint", "(I)Z"⟩
abbrev cX9_isLeft : ByteArray := prog_1_method_39_code
def yX9_isLeft : MethodName := ⟨RX9, "isLeft", "(II)Z"⟩
abbrev cX9_isVariable : ByteArray := prog_1_method_40_code
def yX9_isVariable : MethodName := ⟨RX9, "isVariable", "(I)Z"⟩
abbrev cX9_canBegin : ByteArray := prog_1_method_41_code
def yX9_canBegin : MethodName := ⟨RX9, "canBegin", "(II)Z"⟩
abbrev cX9_isSheet : ByteArray := prog_1_method_42_code
def yX9_isSheet : MethodName := ⟨RX9, "isSheet", "(I)Z"⟩
abbrev cX9_isLane : ByteArray := prog_1_method_43_code
def yX9_isLane : MethodName := ⟨RX9, "isLane", "(I)Z"⟩
abbrev cX9_allBits : ByteArray := prog_1_method_44_code
def yX9_allBits : MethodName := ⟨RX9, "allBits", "()I"⟩
abbrev cX9_hasBit : ByteArray := prog_1_method_45_code
def yX9_hasBit : MethodName := ⟨RX9, "hasBit", "(II)Z"⟩
abbrev cX9_variableOf : ByteArray := prog_1_method_46_code
def yX9_variableOf : MethodName := ⟨RX9, "variableOf", "(I)I"⟩
abbrev cX9_bitOf : ByteArray := prog_1_method_47_code
def yX9_bitOf : MethodName := ⟨RX9, "bitOf", "(I)I"⟩
abbrev cX9_valueOf : ByteArray := prog_1_method_48_code
def yX9_valueOf : MethodName := ⟨RX9, "valueOf", "(I[I)I"⟩
abbrev cX9_result : ByteArray := prog_1_method_49_code
def yX9_result : MethodName := ⟨RX9, "result", "(III)I"⟩
abbrev cX9_nameOf : ByteArray := prog_1_method_50_code
def yX9_nameOf : MethodName := ⟨RX9, "nameOf", "(I)Ljava/lang/String;"⟩
abbrev cX9_copyRow : ByteArray := prog_1_method_51_code
def yX9_copyRow : MethodName := ⟨RX9, "copyRow", "([I[I)V"⟩
def RX10 : String := "PointMakerModel"
def TX10 : u_T := fun k => match k with
  | 0 => ("PointMakerModel", "state", "[I", true)
  | 1 => ("PointMakerModel", "tape", "[I", true)
  | 2 => ("PointMakerModel", "taped", "I", false)
  | 3 => ("PointMakerModel", "fault", "I", false)
  | 4 => ("PointMakerModel", "broken", "I", false)
  | 5 => ("PointMakerModel", "brokenAt", "I", false)
  | 6 => ("PointMakerModel", "spot", "I", false)
  | 7 => ("PointMakerModel", "here", "I", false)
  | 8 => ("PointMakerModel", "token", "I", false)
  | 9 => ("PointMakerModel", "value", "I", false)
  | 10 => ("PointMakerModel", "ends", "[I", true)
  | 11 => ("PointMakerModel", "letters", "[I", true)
  | 12 => ("PointMakerModel", "unknown", "I", false)
  | 13 => ("PointMakerModel", "ahead", "[I", true)
  | 14 => ("PointMakerModel", "isMade", "Z", false)
  | 15 => ("PointMakerModel", "points", "I", false)
  | 16 => ("PointMakerModel", "isOver", "Z", false)
  | 17 => ("PointMakerModel", "blockOf", "[I", true)
  | 18 => ("PointMakerModel", "heldAt", "[I", true)
  | 19 => ("PointMakerModel", "endOf", "[I", true)
  | 20 => ("PointMakerModel", "oneOf", "[I", true)
  | 21 => ("PointMakerModel", "twoOf", "[I", true)
  | 22 => ("PointMakerModel", "byOf", "[I", true)
  | 23 => ("PointMakerModel", "leftOf", "[I", true)
  | 24 => ("PointMakerModel", "parts", "[I", true)
  | 25 => ("PointMakerModel", "held", "[I", true)
  | 26 => ("PointMakerModel", "page", "[I", true)
  | 27 => ("PointMakerModel", "paged", "I", false)
  | 28 => ("PointMakerModel", "sought", "[I", true)
  | 29 => ("PointMakerModel", "begins", "[I", true)
  | 30 => ("PointMakerModel", "values", "[I", true)
  | 31 => ("PointMakerModel", "said", "I", false)
  | 32 => ("PointMakerModel", "saidMany", "I", false)
  | 33 => ("PointMakerModel", "gone", "I", false)
  | 34 => ("PointMakerModel", "done", "I", false)
  | 35 => ("PointMakerModel", "isStopped", "Z", false)
  | 36 => ("PointMakerModel", "isRun", "Z", false)
  | 37 => ("PointMakerModel", "latest", "[I", true)
  | 38 => ("PointMakerModel", "drawnAt", "[I", true)
  | 39 => ("PointMakerModel", "other", "[I", true)
  | 40 => ("PointMakerModel", "isKept", "[Z", true)
  | 41 => ("PointMakerModel", "lanes", "[I", true)
  | 42 => ("PointMakerModel", "lengths", "[I", true)
  | 43 => ("PointMakerModel", "cells", "[I", true)
  | 44 => ("PointMakerModel", "aside", "[I", true)
  | _ => ("PointMakerModel", "torn", "I", false)
def tyX10 : Nat → FieldType := fun k => match k with
  | 0 => .array .int
  | 1 => .array .int
  | 2 => .int
  | 3 => .int
  | 4 => .int
  | 5 => .int
  | 6 => .int
  | 7 => .int
  | 8 => .int
  | 9 => .int
  | 10 => .array .int
  | 11 => .array .int
  | 12 => .int
  | 13 => .array .int
  | 14 => .boolean
  | 15 => .int
  | 16 => .boolean
  | 17 => .array .int
  | 18 => .array .int
  | 19 => .array .int
  | 20 => .array .int
  | 21 => .array .int
  | 22 => .array .int
  | 23 => .array .int
  | 24 => .array .int
  | 25 => .array .int
  | 26 => .array .int
  | 27 => .int
  | 28 => .array .int
  | 29 => .array .int
  | 30 => .array .int
  | 31 => .int
  | 32 => .int
  | 33 => .int
  | 34 => .int
  | 35 => .boolean
  | 36 => .boolean
  | 37 => .array .int
  | 38 => .array .int
  | 39 => .array .int
  | 40 => .array .boolean
  | 41 => .array .int
  | 42 => .array .int
  | 43 => .array .int
  | 44 => .array .int
  | _ => .int
abbrev wsX100 : List Cond := u_ws RX10 TX10 46
theorem nmX10 : ∀ a, a < 46 → ∀ b, b < 46 → a ≠ b → (TX10 a).2.1 ≠ (TX10 b).2.1 := by decide +kernel
theorem tyX10_ok : ∀ k, k < 46 → parseFieldDescriptor (TX10 k).2.2.1 = some (tyX10 k) := by decide +kernel
abbrev cX10_init : ByteArray := prog_12_method_1_code
def yX10_init : MethodName := ⟨RX10, "<init>", "()V"⟩
abbrev cX10_in : ByteArray := prog_12_method_3_code
def yX10_in : MethodName := ⟨RX10, "in", "(JJJ)Z"⟩
abbrev cX10_feed : ByteArray := prog_12_method_4_code
def yX10_feed : MethodName := ⟨RX10, "feed", "(I)I"⟩
abbrev cX10_end : ByteArray := prog_12_method_5_code
def yX10_end : MethodName := ⟨RX10, "end", "(I)I"⟩
abbrev cX10_byteAt : ByteArray := prog_12_method_6_code
def yX10_byteAt : MethodName := ⟨RX10, "byteAt", "(I)I"⟩
abbrev cX10_fails : ByteArray := prog_12_method_7_code
def yX10_fails : MethodName := ⟨RX10, "fails", "(I)V"⟩
abbrev cX10_nameHere : ByteArray := prog_12_method_8_code
def yX10_nameHere : MethodName := ⟨RX10, "nameHere", "()I"⟩
abbrev cX10_readsOn : ByteArray := prog_12_method_9_code
def yX10_readsOn : MethodName := ⟨RX10, "readsOn", "()V"⟩
abbrev cX10_numberRead : ByteArray := prog_12_method_10_code
def yX10_numberRead : MethodName := ⟨RX10, "numberRead", "(I)I"⟩
abbrev cX10_variableRead : ByteArray := prog_12_method_11_code
def yX10_variableRead : MethodName := ⟨RX10, "variableRead", "()I"⟩
abbrev cX10_operandRead : ByteArray := prog_12_method_12_code
def yX10_operandRead : MethodName := ⟨RX10, "operandRead", "()I"⟩
abbrev cX10_endsLine : ByteArray := prog_12_method_13_code
def yX10_endsLine : MethodName := ⟨RX10, "endsLine", "()V"⟩
abbrev cX10_readStep : ByteArray := prog_12_method_14_code
def yX10_readStep : MethodName := ⟨RX10, "readStep", "(II)V"⟩
abbrev cX10_readEnd : ByteArray := prog_12_method_15_code
def yX10_readEnd : MethodName := ⟨RX10, "readEnd", "(II)V"⟩
abbrev cX10_readBlock : ByteArray := prog_12_method_16_code
def yX10_readBlock : MethodName := ⟨RX10, "readBlock", "()V"⟩
abbrev cX10_isWhole : ByteArray := prog_12_method_17_code
def yX10_isWhole : MethodName := ⟨RX10, "isWhole", "()Z"⟩
abbrev cX10_text : ByteArray := prog_12_method_18_code
def yX10_text : MethodName := ⟨RX10, "text", "()I"⟩
abbrev cX10_fault : ByteArray := prog_12_method_19_code
def yX10_fault : MethodName := ⟨RX10, "fault", "()I"⟩
abbrev cX10_copies : ByteArray := prog_12_method_20_code
def yX10_copies : MethodName := ⟨RX10, "copies", "(II)V"⟩
abbrev cX10_isUnknown : ByteArray := prog_12_method_21_code
def yX10_isUnknown : MethodName := ⟨RX10, "isUnknown", "(I)Z"⟩
abbrev cX10_knows : ByteArray := prog_12_method_22_code
def yX10_knows : MethodName := ⟨RX10, "knows", "()V"⟩
abbrev cX10_bitOf : ByteArray := prog_12_method_23_code
def yX10_bitOf : MethodName := ⟨RX10, "bitOf", "(I)I"⟩
abbrev cX10_readIn : ByteArray := prog_12_method_24_code
def yX10_readIn : MethodName := ⟨RX10, "readIn", "(I)I"⟩
abbrev cX10_reads : ByteArray := prog_12_method_25_code
def yX10_reads : MethodName := ⟨RX10, "reads", "()V"⟩
abbrev cX10_isPointOf : ByteArray := prog_12_method_26_code
def yX10_isPointOf : MethodName := ⟨RX10, "isPointOf", "(II)Z"⟩
abbrev cX10_toldAt : ByteArray := prog_12_method_27_code
def yX10_toldAt : MethodName := ⟨RX10, "toldAt", "(II)I"⟩
abbrev cX10_pointOf : ByteArray := prog_12_method_28_code
def yX10_pointOf : MethodName := ⟨RX10, "pointOf", "(I)I"⟩
abbrev cX10_numberIn : ByteArray := prog_12_method_29_code
def yX10_numberIn : MethodName := ⟨RX10, "numberIn", "(I)I"⟩
abbrev cX10_brings : ByteArray := prog_12_method_30_code
def yX10_brings : MethodName := ⟨RX10, "brings", "(III)I"⟩
abbrev cX10_leftOperand : ByteArray := prog_12_method_31_code
def yX10_leftOperand : MethodName := ⟨RX10, "leftOperand", "(I)I"⟩
abbrev cX10_leaves : ByteArray := prog_12_method_32_code
def yX10_leaves : MethodName := ⟨RX10, "leaves", "(II)V"⟩
abbrev cX10_goesThrough : ByteArray := prog_12_method_33_code
def yX10_goesThrough : MethodName := ⟨RX10, "goesThrough", "(I)V"⟩
abbrev cX10_makes : ByteArray := prog_12_method_34_code
def yX10_makes : MethodName := ⟨RX10, "makes", "()V"⟩
abbrev cX10_isPoint : ByteArray := prog_12_method_35_code
def yX10_isPoint : MethodName := ⟨RX10, "isPoint", "(I)Z"⟩
abbrev cX10_isBlock : ByteArray := prog_12_method_36_code
def yX10_isBlock : MethodName := ⟨RX10, "isBlock", "(I)Z"⟩
abbrev cX10_isStep : ByteArray := prog_12_method_37_code
def yX10_isStep : MethodName := ⟨RX10, "isStep", "(I)Z"⟩
abbrev cX10_isVariable : ByteArray := prog_12_method_38_code
def yX10_isVariable : MethodName := ⟨RX10, "isVariable", "(I)Z"⟩
abbrev cX10_givenBits : ByteArray := prog_12_method_39_code
def yX10_givenBits : MethodName := ⟨RX10, "givenBits", "()I"⟩
abbrev cX10_allOf : ByteArray := prog_12_method_40_code
def yX10_allOf : MethodName := ⟨RX10, "allOf", "(Z)I"⟩
abbrev cX10_rule : ByteArray := prog_12_method_41_code
def yX10_rule : MethodName := ⟨RX10, "rule", "(I)I"⟩
abbrev cX10_block : ByteArray := prog_12_method_42_code
def yX10_block : MethodName := ⟨RX10, "block", "(II)I"⟩
abbrev cX10_step : ByteArray := prog_12_method_43_code
def yX10_step : MethodName := ⟨RX10, "step", "(II)I"⟩
abbrev cX10_give : ByteArray := prog_12_method_44_code
def yX10_give : MethodName := ⟨RX10, "give", "(II)I"⟩
abbrev cX10_wise : ByteArray := prog_12_method_45_code
def yX10_wise : MethodName := ⟨RX10, "wise", "(I)I"⟩
abbrev cX10_leadsTo : ByteArray := prog_12_method_46_code
def yX10_leadsTo : MethodName := ⟨RX10, "leadsTo", "(I)I"⟩
abbrev cX10_point : ByteArray := prog_12_method_47_code
def yX10_point : MethodName := ⟨RX10, "point", "(II)I"⟩
abbrev cX10_held : ByteArray := prog_12_method_48_code
def yX10_held : MethodName := ⟨RX10, "held", "(II)I"⟩
abbrev cX10_left : ByteArray := prog_12_method_49_code
def yX10_left : MethodName := ⟨RX10, "left", "(III)I"⟩
abbrev cX10_shows : ByteArray := prog_12_method_50_code
def yX10_shows : MethodName := ⟨RX10, "shows", "(I)V"⟩
abbrev cX10_showsNumber : ByteArray := prog_12_method_51_code
def yX10_showsNumber : MethodName := ⟨RX10, "showsNumber", "(I)V"⟩
abbrev cX10_showsWord : ByteArray := prog_12_method_52_code
def yX10_showsWord : MethodName := ⟨RX10, "showsWord", "(I)V"⟩
abbrev cX10_showsOperand : ByteArray := prog_12_method_53_code
def yX10_showsOperand : MethodName := ⟨RX10, "showsOperand", "(I)V"⟩
abbrev cX10_showsStep : ByteArray := prog_12_method_54_code
def yX10_showsStep : MethodName := ⟨RX10, "showsStep", "(I)V"⟩
abbrev cX10_showsPoint : ByteArray := prog_12_method_55_code
def yX10_showsPoint : MethodName := ⟨RX10, "showsPoint", "(I)V"⟩
abbrev cX10_shownOf : ByteArray := prog_12_method_56_code
def yX10_shownOf : MethodName := ⟨RX10, "shownOf", "(I)I"⟩
abbrev cX10_shown : ByteArray := prog_12_method_57_code
def yX10_shown : MethodName := ⟨RX10, "shown", "(II)I"⟩
abbrev cX10_where : ByteArray := prog_12_method_58_code
def yX10_where : MethodName := ⟨RX10, "where", "(IIII)I"⟩
abbrev cX10_becomesBegin : ByteArray := prog_12_method_59_code
def yX10_becomesBegin : MethodName := ⟨RX10, "becomesBegin", "(II)I"⟩
abbrev cX10_begin : ByteArray := prog_12_method_60_code
def yX10_begin : MethodName := ⟨RX10, "begin", "(II)I"⟩
abbrev cX10_valueIn : ByteArray := prog_12_method_61_code
def yX10_valueIn : MethodName := ⟨RX10, "valueIn", "(I)I"⟩
abbrev cX10_does : ByteArray := prog_12_method_62_code
def yX10_does : MethodName := ⟨RX10, "does", "(IIIII)V"⟩
abbrev cX10_startsRun : ByteArray := prog_12_method_63_code
def yX10_startsRun : MethodName := ⟨RX10, "startsRun", "()V"⟩
abbrev cX10_runsProgram : ByteArray := prog_12_method_64_code
def yX10_runsProgram : MethodName := ⟨RX10, "runsProgram", "()V"⟩
abbrev cX10_runsLeft : ByteArray := prog_12_method_65_code
def yX10_runsLeft : MethodName := ⟨RX10, "runsLeft", "()V"⟩
abbrev cX10_isLatest : ByteArray := prog_12_method_66_code
def yX10_isLatest : MethodName := ⟨RX10, "isLatest", "()I"⟩
abbrev cX10_drawsBegins : ByteArray := prog_12_method_67_code
def yX10_drawsBegins : MethodName := ⟨RX10, "drawsBegins", "()V"⟩
abbrev cX10_run : ByteArray := prog_12_method_68_code
def yX10_run : MethodName := ⟨RX10, "run", "()I"⟩
abbrev cX10_runLeft : ByteArray := prog_12_method_69_code
def yX10_runLeft : MethodName := ⟨RX10, "runLeft", "()I"⟩
abbrev cX10_told : ByteArray := prog_12_method_70_code
def yX10_told : MethodName := ⟨RX10, "told", "(I)I"⟩
abbrev cX10_isAlikeEnd : ByteArray := prog_12_method_71_code
def yX10_isAlikeEnd : MethodName := ⟨RX10, "isAlikeEnd", "()Z"⟩
abbrev cX10_agree : ByteArray := prog_12_method_72_code
def yX10_agree : MethodName := ⟨RX10, "agree", "(III)I"⟩
abbrev cX10_puts : ByteArray := prog_12_method_73_code
def yX10_puts : MethodName := ⟨RX10, "puts", "(ZII)I"⟩
abbrev cX10_isOperand : ByteArray := prog_12_method_74_code
def yX10_isOperand : MethodName := ⟨RX10, "isOperand", "(I)Z"⟩
abbrev cX10_alter : ByteArray := prog_12_method_75_code
def yX10_alter : MethodName := ⟨RX10, "alter", "(III)I"⟩
abbrev cX10_lead : ByteArray := prog_12_method_76_code
def yX10_lead : MethodName := ⟨RX10, "lead", "(III)I"⟩
abbrev cX10_keep : ByteArray := prog_12_method_77_code
def yX10_keep : MethodName := ⟨RX10, "keep", "(I)I"⟩
abbrev cX10_back : ByteArray := prog_12_method_78_code
def yX10_back : MethodName := ⟨RX10, "back", "(I)I"⟩
abbrev cX10_sheet : ByteArray := prog_12_method_79_code
def yX10_sheet : MethodName := ⟨RX10, "sheet", "(III)I"⟩
abbrev cX10_lay : ByteArray := prog_12_method_80_code
def yX10_lay : MethodName := ⟨RX10, "lay", "(III)I"⟩
abbrev cX10_setsAside : ByteArray := prog_12_method_81_code
def yX10_setsAside : MethodName := ⟨RX10, "setsAside", "(Z)V"⟩
abbrev cX10_read : ByteArray := prog_12_method_82_code
def yX10_read : MethodName := ⟨RX10, "read", "(IIII)I"⟩
abbrev cX10_torn : ByteArray := prog_12_method_83_code
def yX10_torn : MethodName := ⟨RX10, "torn", "()I"⟩
abbrev cX10_numberOf : ByteArray := prog_12_method_84_code
def yX10_numberOf : MethodName := ⟨RX10, "numberOf", "(I)I"⟩
abbrev cX10_count : ByteArray := prog_12_method_85_code
def yX10_count : MethodName := ⟨RX10, "count", "(I)I"⟩
def RJ9 : String := "java/lang/Math"
def TJ9 : u_T := fun k => match k with
  | _ => ("", "", "", false)
def tyJ9 : Nat → FieldType := fun k => match k with
  | _ => .int
abbrev wsJ90 : List Cond := u_ws RJ9 TJ9 0
theorem nmJ9 : ∀ a, a < 0 → ∀ b, b < 0 → a ≠ b → (TJ9 a).2.1 ≠ (TJ9 b).2.1 := by decide +kernel
theorem tyJ9_ok : ∀ k, k < 0 → parseFieldDescriptor (TJ9 k).2.2.1 = some (tyJ9 k) := by decide +kernel
abbrev cJ9_max_7cf53 : ByteArray := prog_13_method_65_code
def yJ9_max_7cf53 : MethodName := ⟨RJ9, "max", "(II)I"⟩
abbrev cJ9_min_7cf53 : ByteArray := prog_13_method_69_code
def yJ9_min_7cf53 : MethodName := ⟨RJ9, "min", "(II)I"⟩
def RJ0 : String := "java/lang/String"
def TJ0 : u_T := fun k => match k with
  | _ => ("", "", "", false)
def tyJ0 : Nat → FieldType := fun k => match k with
  | _ => .int
abbrev wsJ00 : List Cond := u_ws RJ0 TJ0 0
theorem nmJ0 : ∀ a, a < 0 → ∀ b, b < 0 → a ≠ b → (TJ0 a).2.1 ≠ (TJ0 b).2.1 := by decide +kernel
theorem tyJ0_ok : ∀ k, k < 0 → parseFieldDescriptor (TJ0 k).2.2.1 = some (tyJ0 k) := by decide +kernel
abbrev cJ0_length_8abf5 : ByteArray := prog_14_method_54_code
def yJ0_length_8abf5 : MethodName := ⟨RJ0, "length", "()I"⟩
abbrev cJ0_charAt_5068e : ByteArray := prog_14_method_56_code
def yJ0_charAt_5068e : MethodName := ⟨RJ0, "charAt", "(I)C"⟩
abbrev cJ0_coder_7d493 : ByteArray := prog_14_method_152_code
def yJ0_coder_7d493 : MethodName := ⟨RJ0, "coder", "()B"⟩
abbrev cJ0_isLatin1_aae02 : ByteArray := prog_14_method_154_code
def yJ0_isLatin1_aae02 : MethodName := ⟨RJ0, "isLatin1", "()Z"⟩
abbrev cJ0_checkIndex_df160 : ByteArray := prog_14_method_155_code
def yJ0_checkIndex_df160 : MethodName := ⟨RJ0, "checkIndex", "(II)V"⟩
def RJ1 : String := "java/lang/StringLatin1"
def TJ1 : u_T := fun k => match k with
  | _ => ("", "", "", false)
def tyJ1 : Nat → FieldType := fun k => match k with
  | _ => .int
abbrev wsJ10 : List Cond := u_ws RJ1 TJ1 0
theorem nmJ1 : ∀ a, a < 0 → ∀ b, b < 0 → a ≠ b → (TJ1 a).2.1 ≠ (TJ1 b).2.1 := by decide +kernel
theorem tyJ1_ok : ∀ k, k < 0 → parseFieldDescriptor (TJ1 k).2.2.1 = some (tyJ1 k) := by decide +kernel
abbrev cJ1_charAt_3b067 : ByteArray := prog_15_method_2_code
def yJ1_charAt_3b067 : MethodName := ⟨RJ1, "charAt", "([BI)C"⟩
def RJ2 : String := "java/lang/StringUTF16"
def TJ2 : u_T := fun k => match k with
  | _ => ("", "", "", false)
def tyJ2 : Nat → FieldType := fun k => match k with
  | _ => .int
abbrev wsJ20 : List Cond := u_ws RJ2 TJ2 0
theorem nmJ2 : ∀ a, a < 0 → ∀ b, b < 0 → a ≠ b → (TJ2 a).2.1 ≠ (TJ2 b).2.1 := by decide +kernel
theorem tyJ2_ok : ∀ k, k < 0 → parseFieldDescriptor (TJ2 k).2.2.1 = some (tyJ2 k) := by decide +kernel
abbrev cJ2_getChar_3b067 : ByteArray := prog_16_method_5_code
def yJ2_getChar_3b067 : MethodName := ⟨RJ2, "getChar", "([BI)C"⟩
abbrev cJ2_length_9d52b : ByteArray := prog_16_method_6_code
def yJ2_length_9d52b : MethodName := ⟨RJ2, "length", "([B)I"⟩
abbrev cJ2_charAt_3b067 : ByteArray := prog_16_method_83_code
def yJ2_charAt_3b067 : MethodName := ⟨RJ2, "charAt", "([BI)C"⟩
abbrev cJ2_checkIndex_2214a : ByteArray := prog_16_method_91_code
def yJ2_checkIndex_2214a : MethodName := ⟨RJ2, "checkIndex", "(I[B)V"⟩
def RJ10 : String := "java/lang/System"
def TJ10 : u_T := fun k => match k with
  | _ => ("", "", "", false)
def tyJ10 : Nat → FieldType := fun k => match k with
  | _ => .int
abbrev wsJ100 : List Cond := u_ws RJ10 TJ10 0
theorem nmJ10 : ∀ a, a < 0 → ∀ b, b < 0 → a ≠ b → (TJ10 a).2.1 ≠ (TJ10 b).2.1 := by decide +kernel
theorem tyJ10_ok : ∀ k, k < 0 → parseFieldDescriptor (TJ10 k).2.2.1 = some (tyJ10 k) := by decide +kernel
def RJ3 : String := "jdk/internal/util/Preconditions"
def TJ3 : u_T := fun k => match k with
  | _ => ("", "", "", false)
def tyJ3 : Nat → FieldType := fun k => match k with
  | _ => .int
abbrev wsJ30 : List Cond := u_ws RJ3 TJ3 0
theorem nmJ3 : ∀ a, a < 0 → ∀ b, b < 0 → a ≠ b → (TJ3 a).2.1 ≠ (TJ3 b).2.1 := by decide +kernel
theorem tyJ3_ok : ∀ k, k < 0 → parseFieldDescriptor (TJ3 k).2.2.1 = some (tyJ3 k) := by decide +kernel
abbrev cJ3_checkIndex_8e157 : ByteArray := prog_18_method_11_code
def yJ3_checkIndex_8e157 : MethodName := ⟨RJ3, "checkIndex", "(IILjava/util/function/BiFunction;)I"⟩
def RL : String := "PointMakerLaw"
abbrev cL_law : ByteArray := code
def yL_law : MethodName := ⟨RL, "law", "([I)Z"⟩
abbrev vwCl : List vw_C := [(RX0, TX0, 2), (RX1, TX1, 2), (RX2, TX2, 8), (RX3, TX3, 3), (RX4, TX4, 8), (RX5, TX5, 6), (RX6, TX6, 3), (RX7, TX7, 2), (RX8, TX8, 9), (RX9, TX9, 17), (RX10, TX10, 46)]
end
section
/-! THE SHADOW MACHINE. Values are whole numbers (an int, a long) or places; rows and fields are one memory; a step asks what the machine would refuse, and does what it does. -/
abbrev zV : Type := Int ⊕ (Int ⊕ Nat)
abbrev zL : Type := List (Option zV)
abbrev zM : Type := Nat → Int → Int
abbrev zQ : Type := Option zV → zM → Prop
/-- an instruction: its pc, itself (or a mark for it), its length, a place or a class, a count or a field, a number, a list of numbers with places -/
abbrev zE : Type := Nat × Instr × Nat × Nat × Nat × Int × List (Int × Nat)
/-- the shape of a place: tag (0 an object, 1 ints, 2 bytes, 3 booleans, 4, 5 rows of objects), class, how many fields or cells, where its references lead -/
abbrev zS : Type := Nat × Nat × Nat × List (Option Nat)
def zx_wr (z : Int) : Int := (Int32.ofInt z).toInt
def zx_wl (z : Int) : Int := (Int64.ofInt z).toInt
def zx_and (x y : Int) : Int := (Int32.ofInt x &&& Int32.ofInt y).toInt
def zx_or (x y : Int) : Int := (Int32.ofInt x ||| Int32.ofInt y).toInt
def zx_xor (x y : Int) : Int := (Int32.ofInt x ^^^ Int32.ofInt y).toInt
def zx_shl (x y : Int) : Int := (Int32.ofInt x <<< (Int32.ofInt y &&& 31)).toInt
def zx_shr (x y : Int) : Int := (Int32.ofInt x >>> (Int32.ofInt y &&& 31)).toInt
def zx_ushr (x y : Int) : Int := ((Int32.ofInt x).toUInt32 >>> ((Int32.ofInt y).toUInt32 &&& Int32.toUInt32 31)).toInt32.toInt
def zx_div (x y : Int) : Int := (Int32.ofInt x / Int32.ofInt y).toInt
def zx_rem (x y : Int) : Int := (Int32.ofInt x - Int32.ofInt x / Int32.ofInt y * Int32.ofInt y).toInt
def zx_b (x : Int) : Int := (Int32.ofInt x).toInt8.toInt32.toInt
def zx_s (x : Int) : Int := (Int32.ofInt x).toInt16.toInt32.toInt
def zx_lcmp (x y : Int) : Int := if x < y then -1 else if x = y then 0 else 1
def zx_st (h : zM) (a : Nat) (k v : Int) : zM := fun b j => if b = a ∧ j = k then v else h b j
def zx_cp (h : zM) (a : Nat) (sp : Int) (c : Nat) (dp n : Int) : zM := fun b j => if b = c ∧ dp ≤ j ∧ j < dp + n then h a (sp + (j - dp)) else h b j
def zx_lk : zL → Nat → Option zV
  | [], _ => none
  | v :: _, 0 => v
  | _ :: l, n + 1 => zx_lk l n
/-- a slot ahead of one that is written: a long there is gone -/
def zx_kl : Option zV → Option zV
  | some (.inr (.inl _)) => none
  | x => x
def zx_se : zL → Nat → zV → zL
  | [], _, _ => []
  | _ :: l, 0, v => some v :: l
  | x :: l, 1, v => zx_kl x :: zx_se l 0 v
  | x :: l, n + 2, v => x :: zx_se l (n + 1) v
/-- a slot that holds nothing any more -/
def zx_cl : zL → Nat → zL
  | [], _ => []
  | _ :: l, 0 => none :: l
  | x :: l, n + 1 => x :: zx_cl l n
def zx_at : List (Bool × zE) → Nat → Option (Bool × zE)
  | [], _ => none
  | v :: _, 0 => some v
  | _ :: l, n + 1 => zx_at l n
def zx_nt : List (Option Nat) → Nat → Option Nat
  | [], _ => none
  | v :: _, 0 => v
  | _ :: l, n + 1 => zx_nt l n
def zx_p1 (S : List zV) (k : Int → List zV → Prop) : Prop := match S with
  | .inl x :: S => k x S
  | _ => False
def zx_p2 (S : List zV) (k : Int → Int → List zV → Prop) : Prop := match S with
  | .inl y :: .inl x :: S => k x y S
  | _ => False
def zx_pr (S : List zV) (k : Nat → List zV → Prop) : Prop := match S with
  | .inr (.inr r) :: S => k r S
  | _ => False
def zx_pi (S : List zV) (k : Nat → Int → List zV → Prop) : Prop := match S with
  | .inl x :: .inr (.inr r) :: S => k r x S
  | _ => False
def zx_pii (S : List zV) (k : Nat → Int → Int → List zV → Prop) : Prop := match S with
  | .inl v :: .inl x :: .inr (.inr r) :: S => k r x v S
  | _ => False
def zx_li (o : Option zV) (k : Int → Prop) : Prop := match o with
  | some (.inl x) => k x
  | _ => False
def zx_ll (o : Option zV) (k : Int → Prop) : Prop := match o with
  | some (.inr (.inl x)) => k x
  | _ => False
def zx_lr (o : Option zV) (k : Nat → Prop) : Prop := match o with
  | some (.inr (.inr x)) => k x
  | _ => False
def zx_if (c : Prop) (A B : Prop) : Prop := (c → A) ∧ (¬ c → B)
def zx_cnd (c : ClassFile.Cond) (x y : Int) (A B : Prop) : Prop := match c with
  | .eq => zx_if (x = y) A B
  | .ne => zx_if (x = y) B A
  | .lt => zx_if (x < y) A B
  | .ge => zx_if (x < y) B A
  | .gt => zx_if (y < x) A B
  | .le => zx_if (y < x) B A
def zx_sw (x : Int) (k : Nat → Prop) : List (Int × Nat) → Nat → Prop
  | [], d => k d
  | (v, t) :: r, d => zx_if (x = v) (k t) (zx_sw x k r d)
/-- how many are left on the stack below a call's arguments: four at most -/
def zx_low (S : List zV) (A : Prop) : Prop := match S with
  | [] => A
  | [_] => A
  | [_, _] => A
  | [_, _, _] => A
  | [_, _, _, _] => A
  | _ => False
def zx_psh (r : Option zV) (S : List zV) : List zV := match r with
  | none => S
  | some v => v :: S
def zx_one (S : List zV) (k : zV → Prop) : Prop := match S with
  | [v] => k v
  | _ => False
def zx_fld (r : Option Nat) (x : Int) : zV := match r with
  | none => .inl x
  | some q => .inr (.inr q)
def zx_tk : Nat → List zV → List zV → (List zV → List zV → Prop) → Prop
  | 0, S, acc, k => k acc S
  | n + 1, v :: S, acc, k => zx_tk n S (v :: acc) k
  | _ + 1, [], _, _ => False

def zx_shT : List zS := [(0, 9, 17, [some 1, some 44, some 50, some 51, some 52, some 60, some 62, some 64, some 66, some 68, some 70, some 71, some 72, none, none, none, none]),
  (0, 4, 8, [some 2, some 4, none, none, none, none, none, none]),
  (0, 7, 2, [some 3, none]),
  (2, 0, 320, []),
  (0, 8, 9, [some 5, some 6, some 7, some 8, some 9, some 10, some 11, none, none]),
  (1, 0, 8, []),
  (1, 0, 8, []),
  (1, 0, 8, []),
  (1, 0, 8, []),
  (1, 0, 8, []),
  (1, 0, 8, []),
  (1, 0, 120, []),
  (0, 8, 9, [some 13, some 14, some 15, some 16, some 17, some 18, some 19, none, none]),
  (1, 0, 8, []),
  (1, 0, 8, []),
  (1, 0, 8, []),
  (1, 0, 8, []),
  (1, 0, 8, []),
  (1, 0, 8, []),
  (1, 0, 120, []),
  (0, 8, 9, [some 21, some 22, some 23, some 24, some 25, some 26, some 27, none, none]),
  (1, 0, 8, []),
  (1, 0, 8, []),
  (1, 0, 8, []),
  (1, 0, 8, []),
  (1, 0, 8, []),
  (1, 0, 8, []),
  (1, 0, 120, []),
  (0, 8, 9, [some 29, some 30, some 31, some 32, some 33, some 34, some 35, none, none]),
  (1, 0, 8, []),
  (1, 0, 8, []),
  (1, 0, 8, []),
  (1, 0, 8, []),
  (1, 0, 8, []),
  (1, 0, 8, []),
  (1, 0, 120, []),
  (0, 8, 9, [some 37, some 38, some 39, some 40, some 41, some 42, some 43, none, none]),
  (1, 0, 40, []),
  (1, 0, 40, []),
  (1, 0, 40, []),
  (1, 0, 40, []),
  (1, 0, 40, []),
  (1, 0, 40, []),
  (1, 0, 4800, []),
  (0, 3, 3, [some 12, some 45, none]),
  (1, 0, 6, []),
  (0, 3, 3, [some 20, some 47, none]),
  (1, 0, 6, []),
  (0, 3, 3, [some 28, some 49, none]),
  (1, 0, 6, []),
  (4, 0, 2, [some 46, some 48]),
  (3, 0, 2, []),
  (0, 2, 8, [some 53, some 36, some 55, some 56, some 57, none, some 58, some 59]),
  (0, 0, 2, [some 54, none]),
  (1, 0, 8, []),
  (1, 0, 40, []),
  (1, 0, 40, []),
  (1, 0, 240, []),
  (1, 0, 6, []),
  (1, 0, 6, []),
  (0, 1, 2, [some 61, none]),
  (2, 0, 512, []),
  (0, 1, 2, [some 63, none]),
  (2, 0, 512, []),
  (0, 5, 6, [some 65, none, none, none, none, none]),
  (1, 0, 6, []),
  (0, 5, 6, [some 67, none, none, none, none, none]),
  (1, 0, 6, []),
  (0, 5, 6, [some 69, none, none, none, none, none]),
  (1, 0, 6, []),
  (1, 0, 6, []),
  (1, 0, 6, []),
  (5, 0, 4, [some 73, some 75, some 77, some 79]),
  (0, 6, 3, [some 74, none, none]),
  (1, 0, 40, []),
  (0, 6, 3, [some 76, none, none]),
  (1, 0, 40, []),
  (0, 6, 3, [some 78, none, none]),
  (1, 0, 40, []),
  (0, 6, 3, [some 80, none, none]),
  (1, 0, 40, []),
  (0, 10, 46, [some 82, some 83, none, none, none, none, none, none, none, none, some 84, some 85, none, some 86, none, none, none, some 87, some 88, some 89, some 90, some 91, some 92, some 93, some 94, some 95, some 96, none, some 97, some 98, some 99, none, none, none, none, none, none, some 100, some 101, some 102, some 103, some 104, some 105, some 106, some 107, none]),
  (1, 0, 708, []),
  (1, 0, 320, []),
  (1, 0, 11, []),
  (1, 0, 37, []),
  (1, 0, 8, []),
  (1, 0, 40, []),
  (1, 0, 240, []),
  (1, 0, 40, []),
  (1, 0, 40, []),
  (1, 0, 40, []),
  (1, 0, 40, []),
  (1, 0, 40, []),
  (1, 0, 4800, []),
  (1, 0, 6, []),
  (1, 0, 800, []),
  (1, 0, 40, []),
  (1, 0, 6, []),
  (1, 0, 6, []),
  (1, 0, 10, []),
  (1, 0, 6, []),
  (1, 0, 8, []),
  (3, 0, 2, []),
  (1, 0, 4, []),
  (1, 0, 4, []),
  (1, 0, 160, []),
  (1, 0, 6, [])]
/-- C.feed -/
def zt_0 : List (Bool × zE) := [
  (false, 0, .iload_n 1, 1, 1, 0, 0, []),
  (false, 1, .ifCond .lt 9, 3, 5, 0, 0, []),
  (false, 4, .iload_n 1, 1, 1, 0, 0, []),
  (false, 5, .bipush 127, 2, 0, 0, 127, []),
  (false, 7, .if_icmp .le 5, 3, 7, 0, 0, []),
  (false, 10, .iconst (-1), 1, 0, 0, (-1), []),
  (false, 11, .ireturn, 1, 0, 0, 0, []),
  (false, 12, .aload_n 0, 1, 0, 0, 0, []),
  (false, 13, .getfield 10, 3, 9, 0, 0, [(378, 10)]),
  (false, 16, .getfield 83, 3, 4, 0, 0, [(201, 83)]),
  (false, 19, .iload_n 1, 1, 1, 0, 0, []),
  (false, 20, .invokevirtual 87, 3, 189, 2, 1, [(434, 0)]),
  (false, 23, .ifCond .eq 16, 3, 18, 0, 0, []),
  (false, 26, .aload_n 0, 1, 0, 0, 0, []),
  (false, 27, .getfield 10, 3, 9, 0, 0, [(378, 10)]),
  (false, 30, .getfield 83, 3, 4, 0, 0, [(201, 83)]),
  (false, 33, .getfield 93, 3, 7, 1, 1, [(129, 93)]),
  (false, 36, .goto 5, 3, 19, 0, 0, []),
  (false, 39, .bipush (-3), 2, 0, 0, (-3), []),
  (false, 41, .ireturn, 1, 0, 0, 0, []),
  (false, 42, .nop, 0, 0, 0, 0, [])]
/-- C.end -/
def zt_1 : List (Bool × zE) := [
  (false, 0, .aload_n 0, 1, 0, 0, 0, []),
  (false, 1, .getfield 10, 3, 9, 0, 0, [(378, 10)]),
  (false, 4, .getfield 83, 3, 4, 0, 0, [(201, 83)]),
  (false, 7, .getfield 93, 3, 7, 1, 1, [(129, 93)]),
  (false, 10, .istore_n 2, 1, 2, 0, 0, []),
  (false, 11, .iload_n 1, 1, 1, 0, 0, []),
  (false, 12, .ifCond .lt 8, 3, 10, 0, 0, []),
  (false, 15, .iload_n 1, 1, 1, 0, 0, []),
  (false, 16, .iload_n 2, 1, 2, 0, 0, []),
  (false, 17, .if_icmp .le 5, 3, 12, 0, 0, []),
  (false, 20, .iconst (-1), 1, 0, 0, (-1), []),
  (false, 21, .ireturn, 1, 0, 0, 0, []),
  (false, 22, .aload_n 0, 1, 0, 0, 0, []),
  (false, 23, .getfield 10, 3, 9, 0, 0, [(378, 10)]),
  (false, 26, .getfield 83, 3, 4, 0, 0, [(201, 83)]),
  (false, 29, .iload_n 1, 1, 1, 0, 0, []),
  (false, 30, .putfield 93, 3, 7, 1, 1, [(129, 93)]),
  (false, 33, .iload_n 2, 1, 2, 0, 0, []),
  (false, 34, .ireturn, 1, 0, 0, 0, []),
  (false, 35, .nop, 0, 0, 0, 0, [])]
/-- C.text -/
def zt_2 : List (Bool × zE) := [
  (false, 0, .aload_n 0, 1, 0, 0, 0, []),
  (false, 1, .getfield 10, 3, 9, 0, 0, [(378, 10)]),
  (false, 4, .invokevirtual 96, 3, 163, 1, 1, [(446, 0)]),
  (false, 7, .istore_n 1, 1, 1, 0, 0, []),
  (false, 8, .aload_n 0, 1, 0, 0, 0, []),
  (false, 9, .getfield 10, 3, 9, 0, 0, [(378, 10)]),
  (false, 12, .getfield 83, 3, 4, 0, 0, [(201, 83)]),
  (false, 15, .iconst 0, 1, 0, 0, 0, []),
  (false, 16, .putfield 93, 3, 7, 1, 1, [(129, 93)]),
  (false, 19, .iload_n 1, 1, 1, 0, 0, []),
  (false, 20, .ifCond .ne 14, 3, 17, 0, 0, []),
  (false, 23, .bipush (-10), 2, 0, 0, (-10), []),
  (false, 25, .aload_n 0, 1, 0, 0, 0, []),
  (false, 26, .getfield 10, 3, 9, 0, 0, [(378, 10)]),
  (false, 29, .getfield 100, 3, 4, 3, 3, [(207, 100)]),
  (false, 32, .isub, 1, 0, 0, 0, []),
  (false, 33, .ireturn, 1, 0, 0, 0, []),
  (false, 34, .aload_n 0, 1, 0, 0, 0, []),
  (false, 35, .getfield 19, 3, 9, 1, 1, [(379, 19)]),
  (false, 38, .aload_n 0, 1, 0, 0, 0, []),
  (false, 39, .getfield 10, 3, 9, 0, 0, [(378, 10)]),
  (false, 42, .getfield 103, 3, 4, 1, 1, [(203, 103)]),
  (false, 45, .invokevirtual 107, 3, 159, 2, 0, [(610, 0)]),
  (false, 48, .iconst 0, 1, 0, 0, 0, []),
  (false, 49, .istore_n 2, 1, 2, 0, 0, []),
  (true, 50, .iload_n 2, 1, 2, 0, 0, []),
  (false, 51, .iconst 2, 1, 0, 0, 2, []),
  (false, 52, .if_icmp .ge 16, 3, 35, 0, 0, []),
  (false, 55, .aload_n 0, 1, 0, 0, 0, []),
  (false, 56, .getfield 27, 3, 9, 3, 3, [(381, 27)]),
  (false, 59, .iload_n 2, 1, 2, 0, 0, []),
  (false, 60, .iconst 0, 1, 0, 0, 0, []),
  (false, 61, .sastore, 1, 0, 0, 0, []),
  (false, 62, .iinc 2 1, 3, 2, 0, 1, []),
  (false, 65, .goto (-15), 3, 25, 0, 0, []),
  (false, 68, .aload_n 0, 1, 0, 0, 0, []),
  (false, 69, .iconst 0, 1, 0, 0, 0, []),
  (false, 70, .putstatic 111, 3, 9, 15, 15, [(393, 111)]),
  (false, 73, .aload_n 0, 1, 0, 0, 0, []),
  (false, 74, .iconst 1, 1, 0, 0, 1, []),
  (false, 75, .putstatic 79, 3, 9, 16, 16, [(394, 79)]),
  (false, 78, .aload_n 0, 1, 0, 0, 0, []),
  (false, 79, .getfield 19, 3, 9, 1, 1, [(379, 19)]),
  (false, 82, .getfield 114, 3, 3, 0, 0, [(244, 114)]),
  (false, 85, .getfield 117, 3, 8, 7, 7, [(174, 117)]),
  (false, 88, .ireturn, 1, 0, 0, 0, []),
  (false, 89, .nop, 0, 0, 0, 0, [])]
/-- C.fault -/
def zt_3 : List (Bool × zE) := [
  (false, 0, .aload_n 0, 1, 0, 0, 0, []),
  (false, 1, .getfield 10, 3, 9, 0, 0, [(378, 10)]),
  (false, 4, .getfield 122, 3, 4, 2, 2, [(205, 122)]),
  (false, 7, .ireturn, 1, 0, 0, 0, []),
  (false, 8, .nop, 0, 0, 0, 0, [])]
/-- C.rule -/
def zt_4 : List (Bool × zE) := [
  (false, 0, .iload_n 1, 1, 1, 0, 0, []),
  (false, 1, .ifCond .lt 9, 3, 5, 0, 0, []),
  (false, 4, .iload_n 1, 1, 1, 0, 0, []),
  (false, 5, .bipush 7, 2, 0, 0, 7, []),
  (false, 7, .if_icmp .le 5, 3, 7, 0, 0, []),
  (false, 10, .iconst (-1), 1, 0, 0, (-1), []),
  (false, 11, .ireturn, 1, 0, 0, 0, []),
  (false, 12, .aload_n 0, 1, 0, 0, 0, []),
  (false, 13, .invokevirtual 125, 3, 28, 1, 0, [(635, 0)]),
  (false, 16, .iload_n 1, 1, 1, 0, 0, []),
  (false, 17, .tableswitch 129 0 6 #[43, 54, 65, 76, 84, 92, 118], 43, 50, 0, 0, [(0, 11), (1, 16), (2, 21), (3, 26), (4, 30), (5, 34), (6, 45)]),
  (false, 60, .aload_n 0, 1, 0, 0, 0, []),
  (false, 61, .getfield 19, 3, 9, 1, 1, [(379, 19)]),
  (false, 64, .getfield 114, 3, 3, 0, 0, [(244, 114)]),
  (false, 67, .getfield 117, 3, 8, 7, 7, [(174, 117)]),
  (false, 70, .ireturn, 1, 0, 0, 0, []),
  (false, 71, .aload_n 0, 1, 0, 0, 0, []),
  (false, 72, .getfield 19, 3, 9, 1, 1, [(379, 19)]),
  (false, 75, .getfield 114, 3, 3, 0, 0, [(244, 114)]),
  (false, 78, .getfield 128, 3, 8, 8, 8, [(178, 128)]),
  (false, 81, .ireturn, 1, 0, 0, 0, []),
  (false, 82, .aload_n 0, 1, 0, 0, 0, []),
  (false, 83, .getfield 34, 3, 9, 4, 4, [(382, 34)]),
  (false, 86, .getfield 131, 3, 2, 0, 0, [(284, 131)]),
  (false, 89, .getfield 135, 3, 0, 1, 1, [(274, 135)]),
  (false, 92, .ireturn, 1, 0, 0, 0, []),
  (false, 93, .aload_n 0, 1, 0, 0, 0, []),
  (false, 94, .getfield 19, 3, 9, 1, 1, [(379, 19)]),
  (false, 97, .invokevirtual 140, 3, 161, 1, 1, [(731, 0)]),
  (false, 100, .ireturn, 1, 0, 0, 0, []),
  (false, 101, .aload_n 0, 1, 0, 0, 0, []),
  (false, 102, .getfield 19, 3, 9, 1, 1, [(379, 19)]),
  (false, 105, .getfield 144, 3, 3, 2, 2, [(250, 144)]),
  (false, 108, .ireturn, 1, 0, 0, 0, []),
  (false, 109, .aload_n 0, 1, 0, 0, 0, []),
  (false, 110, .getfield 34, 3, 9, 4, 4, [(382, 34)]),
  (false, 113, .getfield 147, 3, 2, 5, 5, [(294, 147)]),
  (false, 116, .ifCond .eq 8, 3, 40, 0, 0, []),
  (false, 119, .bipush (-3), 2, 0, 0, (-3), []),
  (false, 121, .goto 13, 3, 44, 0, 0, []),
  (false, 124, .aload_n 0, 1, 0, 0, 0, []),
  (false, 125, .getfield 34, 3, 9, 4, 4, [(382, 34)]),
  (false, 128, .getfield 150, 3, 2, 1, 1, [(286, 150)]),
  (false, 131, .getfield 117, 3, 8, 7, 7, [(174, 117)]),
  (false, 134, .ireturn, 1, 0, 0, 0, []),
  (false, 135, .aload_n 0, 1, 0, 0, 0, []),
  (false, 136, .getfield 34, 3, 9, 4, 4, [(382, 34)]),
  (false, 139, .getfield 150, 3, 2, 1, 1, [(286, 150)]),
  (false, 142, .getfield 128, 3, 8, 8, 8, [(178, 128)]),
  (false, 145, .ireturn, 1, 0, 0, 0, []),
  (false, 146, .aload_n 0, 1, 0, 0, 0, []),
  (false, 147, .invokevirtual 151, 3, 30, 1, 1, [(732, 0)]),
  (false, 150, .ireturn, 1, 0, 0, 0, []),
  (false, 151, .nop, 0, 0, 0, 0, [])]
/-- C.block -/
def zt_5 : List (Bool × zE) := [
  (false, 0, .aload_n 0, 1, 0, 0, 0, []),
  (false, 1, .iload_n 1, 1, 1, 0, 0, []),
  (false, 2, .invokevirtual 154, 3, 35, 2, 1, [(787, 0)]),
  (false, 5, .ifCond .eq 13, 3, 9, 0, 0, []),
  (false, 8, .iload_n 2, 1, 2, 0, 0, []),
  (false, 9, .ifCond .lt 9, 3, 9, 0, 0, []),
  (false, 12, .iload_n 2, 1, 2, 0, 0, []),
  (false, 13, .bipush 6, 2, 0, 0, 6, []),
  (false, 15, .if_icmp .le 5, 3, 11, 0, 0, []),
  (false, 18, .iconst (-1), 1, 0, 0, (-1), []),
  (false, 19, .ireturn, 1, 0, 0, 0, []),
  (false, 20, .iload_n 2, 1, 2, 0, 0, []),
  (false, 21, .ifCond .ne 36, 3, 29, 0, 0, []),
  (false, 24, .aload_n 0, 1, 0, 0, 0, []),
  (false, 25, .getfield 19, 3, 9, 1, 1, [(379, 19)]),
  (false, 28, .getfield 114, 3, 3, 0, 0, [(244, 114)]),
  (false, 31, .getfield 157, 3, 8, 1, 1, [(153, 157)]),
  (false, 34, .iload_n 1, 1, 1, 0, 0, []),
  (false, 35, .iaload, 1, 0, 0, 0, []),
  (false, 36, .ifCond .ne 8, 3, 22, 0, 0, []),
  (false, 39, .bipush (-4), 2, 0, 0, (-4), []),
  (false, 41, .goto 15, 3, 28, 0, 0, []),
  (false, 44, .aload_n 0, 1, 0, 0, 0, []),
  (false, 45, .getfield 19, 3, 9, 1, 1, [(379, 19)]),
  (false, 48, .getfield 114, 3, 3, 0, 0, [(244, 114)]),
  (false, 51, .getfield 160, 3, 8, 0, 0, [(147, 160)]),
  (false, 54, .iload_n 1, 1, 1, 0, 0, []),
  (false, 55, .iaload, 1, 0, 0, 0, []),
  (false, 56, .ireturn, 1, 0, 0, 0, []),
  (false, 57, .iload_n 2, 1, 2, 0, 0, []),
  (false, 58, .bipush 6, 2, 0, 0, 6, []),
  (false, 60, .if_icmp .ne 19, 3, 40, 0, 0, []),
  (false, 63, .aload_n 0, 1, 0, 0, 0, []),
  (false, 64, .invokevirtual 125, 3, 28, 1, 0, [(635, 0)]),
  (false, 67, .aload_n 0, 1, 0, 0, 0, []),
  (false, 68, .getfield 34, 3, 9, 4, 4, [(382, 34)]),
  (false, 71, .getfield 131, 3, 2, 0, 0, [(284, 131)]),
  (false, 74, .iload_n 1, 1, 1, 0, 0, []),
  (false, 75, .invokevirtual 163, 3, 137, 2, 1, [(791, 0)]),
  (false, 78, .ireturn, 1, 0, 0, 0, []),
  (false, 79, .aload_n 0, 1, 0, 0, 0, []),
  (false, 80, .getfield 19, 3, 9, 1, 1, [(379, 19)]),
  (false, 83, .getfield 114, 3, 3, 0, 0, [(244, 114)]),
  (false, 86, .iload_n 1, 1, 1, 0, 0, []),
  (false, 87, .iload_n 2, 1, 2, 0, 0, []),
  (false, 88, .invokevirtual 167, 3, 197, 3, 1, [(792, 0)]),
  (false, 91, .ireturn, 1, 0, 0, 0, []),
  (false, 92, .nop, 0, 0, 0, 0, [])]
/-- C.step -/
def zt_6 : List (Bool × zE) := [
  (false, 0, .aload_n 0, 1, 0, 0, 0, []),
  (false, 1, .getfield 19, 3, 9, 1, 1, [(379, 19)]),
  (false, 4, .getfield 114, 3, 3, 0, 0, [(244, 114)]),
  (false, 7, .iload_n 1, 1, 1, 0, 0, []),
  (false, 8, .iload_n 2, 1, 2, 0, 0, []),
  (false, 9, .invokevirtual 171, 3, 199, 3, 1, [(797, 0)]),
  (false, 12, .ireturn, 1, 0, 0, 0, []),
  (false, 13, .nop, 0, 0, 0, 0, [])]
/-- C.give -/
def zt_7 : List (Bool × zE) := [
  (false, 0, .iload_n 1, 1, 1, 0, 0, []),
  (false, 1, .invokestatic 174, 3, 38, 1, 1, [(802, 0)]),
  (false, 4, .ifCond .eq 14, 3, 9, 0, 0, []),
  (false, 7, .iload_n 2, 1, 2, 0, 0, []),
  (false, 8, .iconst (-1), 1, 0, 0, (-1), []),
  (false, 9, .if_icmp .lt 9, 3, 9, 0, 0, []),
  (false, 12, .iload_n 2, 1, 2, 0, 0, []),
  (false, 13, .bipush 99, 2, 0, 0, 99, []),
  (false, 15, .if_icmp .le 5, 3, 11, 0, 0, []),
  (false, 18, .iconst (-1), 1, 0, 0, (-1), []),
  (false, 19, .ireturn, 1, 0, 0, 0, []),
  (false, 20, .aload_n 0, 1, 0, 0, 0, []),
  (false, 21, .getfield 19, 3, 9, 1, 1, [(379, 19)]),
  (false, 24, .getfield 177, 3, 3, 1, 1, [(247, 177)]),
  (false, 27, .iload_n 1, 1, 1, 0, 0, []),
  (false, 28, .iaload, 1, 0, 0, 0, []),
  (false, 29, .istore_n 3, 1, 3, 0, 0, []),
  (false, 30, .aload_n 0, 1, 0, 0, 0, []),
  (false, 31, .getfield 19, 3, 9, 1, 1, [(379, 19)]),
  (false, 34, .getfield 177, 3, 3, 1, 1, [(247, 177)]),
  (false, 37, .iload_n 1, 1, 1, 0, 0, []),
  (false, 38, .iload_n 2, 1, 2, 0, 0, []),
  (false, 39, .ifCond .ge 8, 3, 25, 0, 0, []),
  (false, 42, .bipush (-4), 2, 0, 0, (-4), []),
  (false, 44, .goto 4, 3, 26, 0, 0, []),
  (false, 47, .iload_n 2, 1, 2, 0, 0, []),
  (false, 48, .iastore, 1, 0, 0, 0, []),
  (false, 49, .aload_n 0, 1, 0, 0, 0, []),
  (false, 50, .iconst 1, 1, 0, 0, 1, []),
  (false, 51, .putstatic 79, 3, 9, 16, 16, [(394, 79)]),
  (false, 54, .iload_n 3, 1, 3, 0, 0, []),
  (false, 55, .ireturn, 1, 0, 0, 0, []),
  (false, 56, .nop, 0, 0, 0, 0, [])]
/-- C.wise -/
def zt_8 : List (Bool × zE) := [
  (false, 0, .iload_n 1, 1, 1, 0, 0, []),
  (false, 1, .ifCond .lt 8, 3, 5, 0, 0, []),
  (false, 4, .iload_n 1, 1, 1, 0, 0, []),
  (false, 5, .iconst 1, 1, 0, 0, 1, []),
  (false, 6, .if_icmp .le 5, 3, 7, 0, 0, []),
  (false, 9, .iconst (-1), 1, 0, 0, (-1), []),
  (false, 10, .ireturn, 1, 0, 0, 0, []),
  (false, 11, .aload_n 0, 1, 0, 0, 0, []),
  (false, 12, .getfield 19, 3, 9, 1, 1, [(379, 19)]),
  (false, 15, .getfield 144, 3, 3, 2, 2, [(250, 144)]),
  (false, 18, .istore_n 2, 1, 2, 0, 0, []),
  (false, 19, .aload_n 0, 1, 0, 0, 0, []),
  (false, 20, .getfield 19, 3, 9, 1, 1, [(379, 19)]),
  (false, 23, .iload_n 1, 1, 1, 0, 0, []),
  (false, 24, .putfield 144, 3, 3, 2, 2, [(250, 144)]),
  (false, 27, .aload_n 0, 1, 0, 0, 0, []),
  (false, 28, .iconst 1, 1, 0, 0, 1, []),
  (false, 29, .putstatic 79, 3, 9, 16, 16, [(394, 79)]),
  (false, 32, .iload_n 2, 1, 2, 0, 0, []),
  (false, 33, .ireturn, 1, 0, 0, 0, []),
  (false, 34, .nop, 0, 0, 0, 0, [])]
/-- C.point -/
def zt_9 : List (Bool × zE) := [
  (false, 0, .aload_n 0, 1, 0, 0, 0, []),
  (false, 1, .invokevirtual 125, 3, 28, 1, 0, [(635, 0)]),
  (false, 4, .aload_n 0, 1, 0, 0, 0, []),
  (false, 5, .iload_n 1, 1, 1, 0, 0, []),
  (false, 6, .invokevirtual 180, 3, 36, 2, 1, [(811, 0)]),
  (false, 9, .ifCond .eq 13, 3, 11, 0, 0, []),
  (false, 12, .iload_n 2, 1, 2, 0, 0, []),
  (false, 13, .ifCond .lt 9, 3, 11, 0, 0, []),
  (false, 16, .iload_n 2, 1, 2, 0, 0, []),
  (false, 17, .bipush 7, 2, 0, 0, 7, []),
  (false, 19, .if_icmp .le 5, 3, 13, 0, 0, []),
  (false, 22, .iconst (-1), 1, 0, 0, (-1), []),
  (false, 23, .ireturn, 1, 0, 0, 0, []),
  (false, 24, .iload_n 2, 1, 2, 0, 0, []),
  (false, 25, .lookupswitch 68 #[(0, 35), (6, 45), (7, 55)], 35, 34, 0, 0, [(0, 15), (6, 21), (7, 27)]),
  (false, 60, .aload_n 0, 1, 0, 0, 0, []),
  (false, 61, .getfield 34, 3, 9, 4, 4, [(382, 34)]),
  (false, 64, .getfield 183, 3, 2, 2, 2, [(288, 183)]),
  (false, 67, .iload_n 1, 1, 1, 0, 0, []),
  (false, 68, .iaload, 1, 0, 0, 0, []),
  (false, 69, .ireturn, 1, 0, 0, 0, []),
  (false, 70, .aload_n 0, 1, 0, 0, 0, []),
  (false, 71, .getfield 34, 3, 9, 4, 4, [(382, 34)]),
  (false, 74, .getfield 186, 3, 2, 3, 3, [(290, 186)]),
  (false, 77, .iload_n 1, 1, 1, 0, 0, []),
  (false, 78, .iaload, 1, 0, 0, 0, []),
  (false, 79, .ireturn, 1, 0, 0, 0, []),
  (false, 80, .aload_n 0, 1, 0, 0, 0, []),
  (false, 81, .iload_n 1, 1, 1, 0, 0, []),
  (false, 82, .invokevirtual 189, 3, 29, 2, 0, [(815, 0)]),
  (false, 85, .aload_n 0, 1, 0, 0, 0, []),
  (false, 86, .getfield 41, 3, 9, 5, 5, [(383, 41)]),
  (false, 89, .getfield 193, 3, 1, 1, 1, [(322, 193)]),
  (false, 92, .ireturn, 1, 0, 0, 0, []),
  (false, 93, .aload_n 0, 1, 0, 0, 0, []),
  (false, 94, .getfield 34, 3, 9, 4, 4, [(382, 34)]),
  (false, 97, .getfield 150, 3, 2, 1, 1, [(286, 150)]),
  (false, 100, .iload_n 1, 1, 1, 0, 0, []),
  (false, 101, .iload_n 2, 1, 2, 0, 0, []),
  (false, 102, .invokevirtual 167, 3, 197, 3, 1, [(792, 0)]),
  (false, 105, .ireturn, 1, 0, 0, 0, []),
  (false, 106, .nop, 0, 0, 0, 0, [])]
/-- C.held -/
def zt_10 : List (Bool × zE) := [
  (false, 0, .aload_n 0, 1, 0, 0, 0, []),
  (false, 1, .invokevirtual 125, 3, 28, 1, 0, [(635, 0)]),
  (false, 4, .aload_n 0, 1, 0, 0, 0, []),
  (false, 5, .iload_n 1, 1, 1, 0, 0, []),
  (false, 6, .invokevirtual 180, 3, 36, 2, 1, [(811, 0)]),
  (false, 9, .ifCond .eq 10, 3, 9, 0, 0, []),
  (false, 12, .iload_n 2, 1, 2, 0, 0, []),
  (false, 13, .invokestatic 174, 3, 38, 1, 1, [(802, 0)]),
  (false, 16, .ifCond .ne 5, 3, 11, 0, 0, []),
  (false, 19, .iconst (-1), 1, 0, 0, (-1), []),
  (false, 20, .ireturn, 1, 0, 0, 0, []),
  (false, 21, .aload_n 0, 1, 0, 0, 0, []),
  (false, 22, .getfield 34, 3, 9, 4, 4, [(382, 34)]),
  (false, 25, .getfield 131, 3, 2, 0, 0, [(284, 131)]),
  (false, 28, .getfield 135, 3, 0, 1, 1, [(274, 135)]),
  (false, 31, .iload_n 2, 1, 2, 0, 0, []),
  (false, 32, .invokestatic 194, 3, 43, 2, 1, [(823, 0)]),
  (false, 35, .ifCond .eq 8, 3, 20, 0, 0, []),
  (false, 38, .bipush (-4), 2, 0, 0, (-4), []),
  (false, 40, .goto 17, 3, 29, 0, 0, []),
  (false, 43, .aload_n 0, 1, 0, 0, 0, []),
  (false, 44, .getfield 34, 3, 9, 4, 4, [(382, 34)]),
  (false, 47, .getfield 198, 3, 2, 4, 4, [(292, 198)]),
  (false, 50, .iload_n 1, 1, 1, 0, 0, []),
  (false, 51, .bipush 6, 2, 0, 0, 6, []),
  (false, 53, .imul, 1, 0, 0, 0, []),
  (false, 54, .iload_n 2, 1, 2, 0, 0, []),
  (false, 55, .iadd, 1, 0, 0, 0, []),
  (false, 56, .iaload, 1, 0, 0, 0, []),
  (false, 57, .ireturn, 1, 0, 0, 0, []),
  (false, 58, .nop, 0, 0, 0, 0, [])]
/-- C.left -/
def zt_11 : List (Bool × zE) := [
  (false, 0, .aload_n 0, 1, 0, 0, 0, []),
  (false, 1, .invokevirtual 125, 3, 28, 1, 0, [(635, 0)]),
  (false, 4, .aload_n 0, 1, 0, 0, 0, []),
  (false, 5, .iload_n 1, 1, 1, 0, 0, []),
  (false, 6, .iload_n 2, 1, 2, 0, 0, []),
  (false, 7, .invokevirtual 201, 3, 37, 3, 1, [(828, 0)]),
  (false, 10, .ifCond .ne 5, 3, 9, 0, 0, []),
  (false, 13, .iconst (-1), 1, 0, 0, (-1), []),
  (false, 14, .ireturn, 1, 0, 0, 0, []),
  (false, 15, .aload_n 0, 1, 0, 0, 0, []),
  (false, 16, .getfield 34, 3, 9, 4, 4, [(382, 34)]),
  (false, 19, .getfield 150, 3, 2, 1, 1, [(286, 150)]),
  (false, 22, .aload_n 0, 1, 0, 0, 0, []),
  (false, 23, .getfield 34, 3, 9, 4, 4, [(382, 34)]),
  (false, 26, .getfield 150, 3, 2, 1, 1, [(286, 150)]),
  (false, 29, .getfield 160, 3, 8, 0, 0, [(147, 160)]),
  (false, 32, .iload_n 1, 1, 1, 0, 0, []),
  (false, 33, .iaload, 1, 0, 0, 0, []),
  (false, 34, .iload_n 2, 1, 2, 0, 0, []),
  (false, 35, .iadd, 1, 0, 0, 0, []),
  (false, 36, .iload_n 3, 1, 3, 0, 0, []),
  (false, 37, .invokevirtual 171, 3, 199, 3, 1, [(797, 0)]),
  (false, 40, .ireturn, 1, 0, 0, 0, []),
  (false, 41, .nop, 0, 0, 0, 0, [])]
/-- C.shown -/
def zt_12 : List (Bool × zE) := [
  (false, 0, .aload_n 0, 1, 0, 0, 0, []),
  (false, 1, .invokevirtual 125, 3, 28, 1, 0, [(635, 0)]),
  (false, 4, .aload_n 0, 1, 0, 0, 0, []),
  (false, 5, .iload_n 1, 1, 1, 0, 0, []),
  (false, 6, .invokevirtual 180, 3, 36, 2, 1, [(811, 0)]),
  (false, 9, .ifCond .ne 5, 3, 8, 0, 0, []),
  (false, 12, .iconst (-1), 1, 0, 0, (-1), []),
  (false, 13, .ireturn, 1, 0, 0, 0, []),
  (false, 14, .aload_n 0, 1, 0, 0, 0, []),
  (false, 15, .iload_n 1, 1, 1, 0, 0, []),
  (false, 16, .invokevirtual 189, 3, 29, 2, 0, [(815, 0)]),
  (false, 19, .aload_n 0, 1, 0, 0, 0, []),
  (false, 20, .getfield 41, 3, 9, 5, 5, [(383, 41)]),
  (false, 23, .iload_n 2, 1, 2, 0, 0, []),
  (false, 24, .invokevirtual 204, 3, 139, 2, 1, [(836, 0)]),
  (false, 27, .ireturn, 1, 0, 0, 0, []),
  (false, 28, .nop, 0, 0, 0, 0, [])]
/-- C.where -/
def zt_13 : List (Bool × zE) := [
  (false, 0, .aload_n 0, 1, 0, 0, 0, []),
  (false, 1, .invokevirtual 125, 3, 28, 1, 0, [(635, 0)]),
  (false, 4, .aload_n 0, 1, 0, 0, 0, []),
  (false, 5, .iload_n 1, 1, 1, 0, 0, []),
  (false, 6, .invokevirtual 180, 3, 36, 2, 1, [(811, 0)]),
  (false, 9, .ifCond .eq 17, 3, 13, 0, 0, []),
  (false, 12, .iload_n 2, 1, 2, 0, 0, []),
  (false, 13, .ifCond .lt 13, 3, 13, 0, 0, []),
  (false, 16, .aload_n 0, 1, 0, 0, 0, []),
  (false, 17, .iload_n 3, 1, 3, 0, 0, []),
  (false, 18, .iload 4, 2, 4, 0, 0, []),
  (false, 20, .invokevirtual 201, 3, 37, 3, 1, [(828, 0)]),
  (false, 23, .ifCond .ne 5, 3, 15, 0, 0, []),
  (false, 26, .iconst (-1), 1, 0, 0, (-1), []),
  (false, 27, .ireturn, 1, 0, 0, 0, []),
  (false, 28, .aload_n 0, 1, 0, 0, 0, []),
  (false, 29, .iload_n 1, 1, 1, 0, 0, []),
  (false, 30, .invokevirtual 189, 3, 29, 2, 0, [(815, 0)]),
  (false, 33, .aload_n 0, 1, 0, 0, 0, []),
  (false, 34, .getfield 45, 3, 9, 6, 6, [(384, 45)]),
  (false, 37, .aload_n 0, 1, 0, 0, 0, []),
  (false, 38, .getfield 34, 3, 9, 4, 4, [(382, 34)]),
  (false, 41, .getfield 150, 3, 2, 1, 1, [(286, 150)]),
  (false, 44, .aload_n 0, 1, 0, 0, 0, []),
  (false, 45, .getfield 34, 3, 9, 4, 4, [(382, 34)]),
  (false, 48, .getfield 150, 3, 2, 1, 1, [(286, 150)]),
  (false, 51, .getfield 160, 3, 8, 0, 0, [(147, 160)]),
  (false, 54, .iload_n 3, 1, 3, 0, 0, []),
  (false, 55, .iaload, 1, 0, 0, 0, []),
  (false, 56, .iload 4, 2, 4, 0, 0, []),
  (false, 58, .iadd, 1, 0, 0, 0, []),
  (false, 59, .invokevirtual 207, 3, 146, 3, 0, [(844, 0)]),
  (false, 62, .aload_n 0, 1, 0, 0, 0, []),
  (false, 63, .getfield 41, 3, 9, 5, 5, [(383, 41)]),
  (false, 66, .aload_n 0, 1, 0, 0, 0, []),
  (false, 67, .getfield 45, 3, 9, 6, 6, [(384, 45)]),
  (false, 70, .iload_n 2, 1, 2, 0, 0, []),
  (false, 71, .invokevirtual 211, 3, 149, 3, 1, [(848, 0)]),
  (false, 74, .ireturn, 1, 0, 0, 0, []),
  (false, 75, .nop, 0, 0, 0, 0, [])]
/-- C.begin -/
def zt_14 : List (Bool × zE) := [
  (false, 0, .iload_n 1, 1, 1, 0, 0, []),
  (false, 1, .iload_n 2, 1, 2, 0, 0, []),
  (false, 2, .invokestatic 215, 3, 39, 2, 1, [(861, 0)]),
  (false, 5, .ifCond .ne 5, 3, 6, 0, 0, []),
  (false, 8, .iconst (-1), 1, 0, 0, (-1), []),
  (false, 9, .ireturn, 1, 0, 0, 0, []),
  (false, 10, .aload_n 0, 1, 0, 0, 0, []),
  (false, 11, .getfield 61, 3, 9, 10, 10, [(388, 61)]),
  (false, 14, .iload_n 1, 1, 1, 0, 0, []),
  (false, 15, .iaload, 1, 0, 0, 0, []),
  (false, 16, .istore_n 3, 1, 3, 0, 0, []),
  (false, 17, .aload_n 0, 1, 0, 0, 0, []),
  (false, 18, .getfield 61, 3, 9, 10, 10, [(388, 61)]),
  (false, 21, .iload_n 1, 1, 1, 0, 0, []),
  (false, 22, .iload_n 2, 1, 2, 0, 0, []),
  (false, 23, .iastore, 1, 0, 0, 0, []),
  (false, 24, .iload_n 3, 1, 3, 0, 0, []),
  (false, 25, .ireturn, 1, 0, 0, 0, []),
  (false, 26, .nop, 0, 0, 0, 0, [])]
/-- C.run -/
def zt_15 : List (Bool × zE) := [
  (false, 0, .aload_n 0, 1, 0, 0, 0, []),
  (false, 1, .getfield 51, 3, 9, 7, 7, [(385, 51)]),
  (false, 4, .aload_n 0, 1, 0, 0, 0, []),
  (false, 5, .getfield 19, 3, 9, 1, 1, [(379, 19)]),
  (false, 8, .getfield 114, 3, 3, 0, 0, [(244, 114)]),
  (false, 11, .aload_n 0, 1, 0, 0, 0, []),
  (false, 12, .getfield 61, 3, 9, 10, 10, [(388, 61)]),
  (false, 15, .aload_n 0, 1, 0, 0, 0, []),
  (false, 16, .getfield 19, 3, 9, 1, 1, [(379, 19)]),
  (false, 19, .getfield 177, 3, 3, 1, 1, [(247, 177)]),
  (false, 22, .invokestatic 218, 3, 42, 0, 1, [(868, 0)]),
  (false, 25, .invokevirtual 221, 3, 181, 5, 0, [(869, 0)]),
  (false, 28, .aload_n 0, 1, 0, 0, 0, []),
  (false, 29, .iconst 1, 1, 0, 0, 1, []),
  (false, 30, .putstatic 111, 3, 9, 15, 15, [(393, 111)]),
  (false, 33, .aload_n 0, 1, 0, 0, 0, []),
  (false, 34, .getfield 51, 3, 9, 7, 7, [(385, 51)]),
  (false, 37, .getfield 225, 3, 5, 5, 5, [(345, 225)]),
  (false, 40, .ifCond .eq 13, 3, 23, 0, 0, []),
  (false, 43, .aload_n 0, 1, 0, 0, 0, []),
  (false, 44, .getfield 51, 3, 9, 7, 7, [(385, 51)]),
  (false, 47, .getfield 228, 3, 5, 4, 4, [(343, 228)]),
  (false, 50, .goto 5, 3, 24, 0, 0, []),
  (false, 53, .bipush (-2), 2, 0, 0, (-2), []),
  (false, 55, .ireturn, 1, 0, 0, 0, []),
  (false, 56, .nop, 0, 0, 0, 0, [])]
/-- C.runLeft -/
def zt_16 : List (Bool × zE) := [
  (false, 0, .aload_n 0, 1, 0, 0, 0, []),
  (false, 1, .invokevirtual 125, 3, 28, 1, 0, [(635, 0)]),
  (false, 4, .aload_n 0, 1, 0, 0, 0, []),
  (false, 5, .getfield 34, 3, 9, 4, 4, [(382, 34)]),
  (false, 8, .getfield 150, 3, 2, 1, 1, [(286, 150)]),
  (false, 11, .getfield 117, 3, 8, 7, 7, [(174, 117)]),
  (false, 14, .ifCond .ne 6, 3, 9, 0, 0, []),
  (false, 17, .bipush (-4), 2, 0, 0, (-4), []),
  (false, 19, .ireturn, 1, 0, 0, 0, []),
  (false, 20, .aload_n 0, 1, 0, 0, 0, []),
  (false, 21, .getfield 51, 3, 9, 7, 7, [(385, 51)]),
  (false, 24, .aload_n 0, 1, 0, 0, 0, []),
  (false, 25, .getfield 34, 3, 9, 4, 4, [(382, 34)]),
  (false, 28, .getfield 150, 3, 2, 1, 1, [(286, 150)]),
  (false, 31, .aload_n 0, 1, 0, 0, 0, []),
  (false, 32, .getfield 61, 3, 9, 10, 10, [(388, 61)]),
  (false, 35, .aload_n 0, 1, 0, 0, 0, []),
  (false, 36, .getfield 19, 3, 9, 1, 1, [(379, 19)]),
  (false, 39, .getfield 177, 3, 3, 1, 1, [(247, 177)]),
  (false, 42, .aload_n 0, 1, 0, 0, 0, []),
  (false, 43, .getfield 34, 3, 9, 4, 4, [(382, 34)]),
  (false, 46, .getfield 131, 3, 2, 0, 0, [(284, 131)]),
  (false, 49, .getfield 135, 3, 0, 1, 1, [(274, 135)]),
  (false, 52, .invokevirtual 221, 3, 181, 5, 0, [(869, 0)]),
  (false, 55, .aload_n 0, 1, 0, 0, 0, []),
  (false, 56, .iconst 1, 1, 0, 0, 1, []),
  (false, 57, .putstatic 111, 3, 9, 15, 15, [(393, 111)]),
  (false, 60, .aload_n 0, 1, 0, 0, 0, []),
  (false, 61, .getfield 51, 3, 9, 7, 7, [(385, 51)]),
  (false, 64, .getfield 225, 3, 5, 5, 5, [(345, 225)]),
  (false, 67, .ifCond .eq 13, 3, 35, 0, 0, []),
  (false, 70, .aload_n 0, 1, 0, 0, 0, []),
  (false, 71, .getfield 51, 3, 9, 7, 7, [(385, 51)]),
  (false, 74, .getfield 228, 3, 5, 4, 4, [(343, 228)]),
  (false, 77, .goto 5, 3, 36, 0, 0, []),
  (false, 80, .bipush (-2), 2, 0, 0, (-2), []),
  (false, 82, .ireturn, 1, 0, 0, 0, []),
  (false, 83, .nop, 0, 0, 0, 0, [])]
/-- C.told -/
def zt_17 : List (Bool × zE) := [
  (false, 0, .iload_n 1, 1, 1, 0, 0, []),
  (false, 1, .bipush 10, 2, 0, 0, 10, []),
  (false, 3, .fsub, 1, 0, 0, 0, []),
  (false, 4, .invokestatic 174, 3, 38, 1, 1, [(802, 0)]),
  (false, 7, .istore_n 2, 1, 2, 0, 0, []),
  (false, 8, .iload_n 1, 1, 1, 0, 0, []),
  (false, 9, .ifCond .lt 12, 3, 12, 0, 0, []),
  (false, 12, .iload_n 1, 1, 1, 0, 0, []),
  (false, 13, .iconst 3, 1, 0, 0, 3, []),
  (false, 14, .if_icmp .le 9, 3, 14, 0, 0, []),
  (false, 17, .iload_n 2, 1, 2, 0, 0, []),
  (false, 18, .ifCond .ne 5, 3, 14, 0, 0, []),
  (false, 21, .iconst (-1), 1, 0, 0, (-1), []),
  (false, 22, .ireturn, 1, 0, 0, 0, []),
  (false, 23, .aload_n 0, 1, 0, 0, 0, []),
  (false, 24, .getfield 111, 3, 9, 15, 15, [(393, 111)]),
  (false, 27, .ifCond .ne 14, 3, 23, 0, 0, []),
  (false, 30, .iload_n 1, 1, 1, 0, 0, []),
  (false, 31, .ifCond .ne 7, 3, 21, 0, 0, []),
  (false, 34, .iconst 0, 1, 0, 0, 0, []),
  (false, 35, .goto 5, 3, 22, 0, 0, []),
  (false, 38, .bipush (-4), 2, 0, 0, (-4), []),
  (false, 40, .ireturn, 1, 0, 0, 0, []),
  (false, 41, .iload_n 2, 1, 2, 0, 0, []),
  (false, 42, .ifCond .eq 16, 3, 33, 0, 0, []),
  (false, 45, .aload_n 0, 1, 0, 0, 0, []),
  (false, 46, .getfield 51, 3, 9, 7, 7, [(385, 51)]),
  (false, 49, .getfield 229, 3, 5, 0, 0, [(335, 229)]),
  (false, 52, .iload_n 1, 1, 1, 0, 0, []),
  (false, 53, .bipush 10, 2, 0, 0, 10, []),
  (false, 55, .isub, 1, 0, 0, 0, []),
  (false, 56, .iaload, 1, 0, 0, 0, []),
  (false, 57, .ireturn, 1, 0, 0, 0, []),
  (false, 58, .iload_n 1, 1, 1, 0, 0, []),
  (false, 59, .tableswitch 49 0 2 #[25, 33, 41], 25, 47, 0, 0, [(0, 35), (1, 39), (2, 43)]),
  (false, 84, .aload_n 0, 1, 0, 0, 0, []),
  (false, 85, .getfield 51, 3, 9, 7, 7, [(385, 51)]),
  (false, 88, .getfield 230, 3, 5, 1, 1, [(337, 230)]),
  (false, 91, .ireturn, 1, 0, 0, 0, []),
  (false, 92, .aload_n 0, 1, 0, 0, 0, []),
  (false, 93, .getfield 51, 3, 9, 7, 7, [(385, 51)]),
  (false, 96, .getfield 233, 3, 5, 2, 2, [(339, 233)]),
  (false, 99, .ireturn, 1, 0, 0, 0, []),
  (false, 100, .aload_n 0, 1, 0, 0, 0, []),
  (false, 101, .getfield 51, 3, 9, 7, 7, [(385, 51)]),
  (false, 104, .getfield 236, 3, 5, 3, 3, [(341, 236)]),
  (false, 107, .ireturn, 1, 0, 0, 0, []),
  (false, 108, .aload_n 0, 1, 0, 0, 0, []),
  (false, 109, .getfield 51, 3, 9, 7, 7, [(385, 51)]),
  (false, 112, .getfield 225, 3, 5, 5, 5, [(345, 225)]),
  (false, 115, .ifCond .eq 7, 3, 53, 0, 0, []),
  (false, 118, .iconst 1, 1, 0, 0, 1, []),
  (false, 119, .goto 4, 3, 54, 0, 0, []),
  (false, 122, .iconst 0, 1, 0, 0, 0, []),
  (false, 123, .ireturn, 1, 0, 0, 0, []),
  (false, 124, .nop, 0, 0, 0, 0, [])]
/-- C.agree -/
def zt_18 : List (Bool × zE) := [
  (false, 0, .iload_n 2, 1, 2, 0, 0, []),
  (false, 1, .iconst 1, 1, 0, 0, 1, []),
  (false, 2, .if_icmp .lt 18, 3, 11, 0, 0, []),
  (false, 5, .iload_n 2, 1, 2, 0, 0, []),
  (false, 6, .bipush 50, 2, 0, 0, 50, []),
  (false, 8, .if_icmp .gt 12, 3, 11, 0, 0, []),
  (false, 11, .iload_n 3, 1, 3, 0, 0, []),
  (false, 12, .ifCond .lt 8, 3, 11, 0, 0, []),
  (false, 15, .iload_n 3, 1, 3, 0, 0, []),
  (false, 16, .iconst 2, 1, 0, 0, 2, []),
  (false, 17, .if_icmp .le 5, 3, 13, 0, 0, []),
  (false, 20, .iconst (-1), 1, 0, 0, (-1), []),
  (false, 21, .ireturn, 1, 0, 0, 0, []),
  (false, 22, .aload_n 0, 1, 0, 0, 0, []),
  (false, 23, .invokevirtual 125, 3, 28, 1, 0, [(635, 0)]),
  (false, 26, .aload_n 0, 1, 0, 0, 0, []),
  (false, 27, .getfield 34, 3, 9, 4, 4, [(382, 34)]),
  (false, 30, .getfield 150, 3, 2, 1, 1, [(286, 150)]),
  (false, 33, .getfield 117, 3, 8, 7, 7, [(174, 117)]),
  (false, 36, .ifCond .ne 6, 3, 22, 0, 0, []),
  (false, 39, .bipush (-4), 2, 0, 0, (-4), []),
  (false, 41, .ireturn, 1, 0, 0, 0, []),
  (false, 42, .iconst 0, 1, 0, 0, 0, []),
  (false, 43, .istore 4, 2, 4, 0, 0, []),
  (false, 45, .iload_n 1, 1, 1, 0, 0, []),
  (false, 46, .istore 5, 2, 5, 0, 0, []),
  (false, 48, .iconst 0, 1, 0, 0, 0, []),
  (false, 49, .istore 6, 2, 6, 0, 0, []),
  (true, 51, .iload 6, 2, 6, 0, 0, []),
  (false, 53, .iload_n 2, 1, 2, 0, 0, []),
  (false, 54, .if_icmp .ge 128, 3, 90, 0, 0, []),
  (false, 57, .iconst 0, 1, 0, 0, 0, []),
  (false, 58, .istore 7, 2, 7, 0, 0, []),
  (true, 60, .iload 7, 2, 7, 0, 0, []),
  (false, 62, .bipush 6, 2, 0, 0, 6, []),
  (false, 64, .if_icmp .ge 39, 3, 55, 0, 0, []),
  (false, 67, .iload 5, 2, 5, 0, 0, []),
  (false, 69, .ldc 239, 2, 903, 0, 1103515245, []),
  (false, 71, .fmul, 1, 0, 0, 0, []),
  (false, 72, .sipush 12345, 3, 0, 0, 12345, []),
  (false, 75, .fadd, 1, 0, 0, 0, []),
  (false, 76, .istore 5, 2, 5, 0, 0, []),
  (false, 78, .aload_n 0, 1, 0, 0, 0, []),
  (false, 79, .getfield 65, 3, 9, 11, 11, [(389, 65)]),
  (false, 82, .iload 7, 2, 7, 0, 0, []),
  (false, 84, .iload 5, 2, 5, 0, 0, []),
  (false, 86, .bipush 16, 2, 0, 0, 16, []),
  (false, 88, .iushr, 1, 0, 0, 0, []),
  (false, 89, .sipush 32767, 3, 0, 0, 32767, []),
  (false, 92, .iand, 1, 0, 0, 0, []),
  (false, 93, .bipush 12, 2, 0, 0, 12, []),
  (false, 95, .irem, 1, 0, 0, 0, []),
  (false, 96, .iastore, 1, 0, 0, 0, []),
  (false, 97, .iinc 7 1, 3, 7, 0, 1, []),
  (false, 100, .goto (-40), 3, 33, 0, 0, []),
  (false, 103, .aload_n 0, 1, 0, 0, 0, []),
  (false, 104, .getfield 55, 3, 9, 8, 8, [(386, 55)]),
  (false, 107, .aload_n 0, 1, 0, 0, 0, []),
  (false, 108, .getfield 19, 3, 9, 1, 1, [(379, 19)]),
  (false, 111, .getfield 114, 3, 3, 0, 0, [(244, 114)]),
  (false, 114, .aload_n 0, 1, 0, 0, 0, []),
  (false, 115, .getfield 65, 3, 9, 11, 11, [(389, 65)]),
  (false, 118, .aload_n 0, 1, 0, 0, 0, []),
  (false, 119, .getfield 19, 3, 9, 1, 1, [(379, 19)]),
  (false, 122, .getfield 177, 3, 3, 1, 1, [(247, 177)]),
  (false, 125, .invokestatic 218, 3, 42, 0, 1, [(868, 0)]),
  (false, 128, .invokevirtual 221, 3, 181, 5, 0, [(869, 0)]),
  (false, 131, .aload_n 0, 1, 0, 0, 0, []),
  (false, 132, .getfield 58, 3, 9, 9, 9, [(387, 58)]),
  (false, 135, .aload_n 0, 1, 0, 0, 0, []),
  (false, 136, .getfield 34, 3, 9, 4, 4, [(382, 34)]),
  (false, 139, .getfield 150, 3, 2, 1, 1, [(286, 150)]),
  (false, 142, .aload_n 0, 1, 0, 0, 0, []),
  (false, 143, .getfield 65, 3, 9, 11, 11, [(389, 65)]),
  (false, 146, .aload_n 0, 1, 0, 0, 0, []),
  (false, 147, .getfield 19, 3, 9, 1, 1, [(379, 19)]),
  (false, 150, .getfield 177, 3, 3, 1, 1, [(247, 177)]),
  (false, 153, .aload_n 0, 1, 0, 0, 0, []),
  (false, 154, .getfield 34, 3, 9, 4, 4, [(382, 34)]),
  (false, 157, .getfield 131, 3, 2, 0, 0, [(284, 131)]),
  (false, 160, .getfield 135, 3, 0, 1, 1, [(274, 135)]),
  (false, 163, .invokevirtual 221, 3, 181, 5, 0, [(869, 0)]),
  (false, 166, .iload 4, 2, 4, 0, 0, []),
  (false, 168, .aload_n 0, 1, 0, 0, 0, []),
  (false, 169, .iload_n 3, 1, 3, 0, 0, []),
  (false, 170, .invokevirtual 240, 3, 31, 2, 1, [(904, 0)]),
  (false, 173, .iadd, 1, 0, 0, 0, []),
  (false, 174, .istore 4, 2, 4, 0, 0, []),
  (false, 176, .iinc 6 1, 3, 6, 0, 1, []),
  (false, 179, .goto (-128), 3, 28, 0, 0, []),
  (false, 182, .iload 4, 2, 4, 0, 0, []),
  (false, 184, .ireturn, 1, 0, 0, 0, []),
  (false, 185, .nop, 0, 0, 0, 0, [])]
/-- C.alter -/
def zt_19 : List (Bool × zE) := [
  (false, 0, .aload_n 0, 1, 0, 0, 0, []),
  (false, 1, .getfield 19, 3, 9, 1, 1, [(379, 19)]),
  (false, 4, .getfield 114, 3, 3, 0, 0, [(244, 114)]),
  (false, 7, .iload_n 1, 1, 1, 0, 0, []),
  (false, 8, .iload_n 2, 1, 2, 0, 0, []),
  (false, 9, .invokevirtual 171, 3, 199, 3, 1, [(797, 0)]),
  (false, 12, .istore 4, 2, 4, 0, 0, []),
  (false, 14, .iload_n 2, 1, 2, 0, 0, []),
  (false, 15, .iconst 1, 1, 0, 0, 1, []),
  (false, 16, .if_icmp .lt 8, 3, 12, 0, 0, []),
  (false, 19, .iload 4, 2, 4, 0, 0, []),
  (false, 21, .ifCond .ge 5, 3, 14, 0, 0, []),
  (false, 24, .iconst (-1), 1, 0, 0, (-1), []),
  (false, 25, .ireturn, 1, 0, 0, 0, []),
  (false, 26, .bipush 106, 2, 0, 0, 106, []),
  (false, 28, .istore 5, 2, 5, 0, 0, []),
  (false, 30, .iload_n 2, 1, 2, 0, 0, []),
  (false, 31, .iconst 1, 1, 0, 0, 1, []),
  (false, 32, .if_icmp .ne 10, 3, 22, 0, 0, []),
  (false, 35, .bipush 6, 2, 0, 0, 6, []),
  (false, 37, .istore 5, 2, 5, 0, 0, []),
  (false, 39, .goto 11, 3, 27, 0, 0, []),
  (false, 42, .iload_n 2, 1, 2, 0, 0, []),
  (false, 43, .iconst 3, 1, 0, 0, 3, []),
  (false, 44, .if_icmp .ne 6, 3, 27, 0, 0, []),
  (false, 47, .iconst 4, 1, 0, 0, 4, []),
  (false, 48, .istore 5, 2, 5, 0, 0, []),
  (false, 50, .iload_n 3, 1, 3, 0, 0, []),
  (false, 51, .ifCond .lt 9, 3, 32, 0, 0, []),
  (false, 54, .iload_n 3, 1, 3, 0, 0, []),
  (false, 55, .iload 5, 2, 5, 0, 0, []),
  (false, 57, .if_icmp .lt 5, 3, 34, 0, 0, []),
  (false, 60, .iconst (-1), 1, 0, 0, (-1), []),
  (false, 61, .ireturn, 1, 0, 0, 0, []),
  (false, 62, .aload_n 0, 1, 0, 0, 0, []),
  (false, 63, .getfield 19, 3, 9, 1, 1, [(379, 19)]),
  (false, 66, .getfield 114, 3, 3, 0, 0, [(244, 114)]),
  (false, 69, .iload_n 1, 1, 1, 0, 0, []),
  (false, 70, .iload_n 2, 1, 2, 0, 0, []),
  (false, 71, .iload_n 3, 1, 3, 0, 0, []),
  (false, 72, .invokevirtual 243, 3, 200, 4, 0, [(912, 0)]),
  (false, 75, .aload_n 0, 1, 0, 0, 0, []),
  (false, 76, .iconst 1, 1, 0, 0, 1, []),
  (false, 77, .putstatic 79, 3, 9, 16, 16, [(394, 79)]),
  (false, 80, .iload 4, 2, 4, 0, 0, []),
  (false, 82, .ireturn, 1, 0, 0, 0, []),
  (false, 83, .nop, 0, 0, 0, 0, [])]
/-- C.lead -/
def zt_20 : List (Bool × zE) := [
  (false, 0, .aload_n 0, 1, 0, 0, 0, []),
  (false, 1, .getfield 19, 3, 9, 1, 1, [(379, 19)]),
  (false, 4, .getfield 114, 3, 3, 0, 0, [(244, 114)]),
  (false, 7, .iload_n 1, 1, 1, 0, 0, []),
  (false, 8, .iload_n 2, 1, 2, 0, 0, []),
  (false, 9, .invokevirtual 167, 3, 197, 3, 1, [(792, 0)]),
  (false, 12, .istore 4, 2, 4, 0, 0, []),
  (false, 14, .iload_n 2, 1, 2, 0, 0, []),
  (false, 15, .iconst 3, 1, 0, 0, 3, []),
  (false, 16, .if_icmp .lt 13, 3, 15, 0, 0, []),
  (false, 19, .iload_n 2, 1, 2, 0, 0, []),
  (false, 20, .iconst 5, 1, 0, 0, 5, []),
  (false, 21, .if_icmp .gt 8, 3, 15, 0, 0, []),
  (false, 24, .iload 4, 2, 4, 0, 0, []),
  (false, 26, .ifCond .ge 5, 3, 17, 0, 0, []),
  (false, 29, .iconst (-1), 1, 0, 0, (-1), []),
  (false, 30, .ireturn, 1, 0, 0, 0, []),
  (false, 31, .iload_n 2, 1, 2, 0, 0, []),
  (false, 32, .iconst 5, 1, 0, 0, 5, []),
  (false, 33, .if_icmp .ne 13, 3, 24, 0, 0, []),
  (false, 36, .iload_n 3, 1, 3, 0, 0, []),
  (false, 37, .invokestatic 174, 3, 38, 1, 1, [(802, 0)]),
  (false, 40, .ifCond .ne 16, 3, 30, 0, 0, []),
  (false, 43, .goto 11, 3, 28, 0, 0, []),
  (false, 46, .aload_n 0, 1, 0, 0, 0, []),
  (false, 47, .iload_n 3, 1, 3, 0, 0, []),
  (false, 48, .invokevirtual 154, 3, 35, 2, 1, [(787, 0)]),
  (false, 51, .ifCond .ne 5, 3, 30, 0, 0, []),
  (false, 54, .iconst (-1), 1, 0, 0, (-1), []),
  (false, 55, .ireturn, 1, 0, 0, 0, []),
  (false, 56, .aload_n 0, 1, 0, 0, 0, []),
  (false, 57, .getfield 19, 3, 9, 1, 1, [(379, 19)]),
  (false, 60, .getfield 114, 3, 3, 0, 0, [(244, 114)]),
  (false, 63, .iload_n 1, 1, 1, 0, 0, []),
  (false, 64, .iload_n 2, 1, 2, 0, 0, []),
  (false, 65, .iload_n 3, 1, 3, 0, 0, []),
  (false, 66, .invokevirtual 247, 3, 198, 4, 0, [(920, 0)]),
  (false, 69, .aload_n 0, 1, 0, 0, 0, []),
  (false, 70, .iconst 1, 1, 0, 0, 1, []),
  (false, 71, .putstatic 79, 3, 9, 16, 16, [(394, 79)]),
  (false, 74, .iload 4, 2, 4, 0, 0, []),
  (false, 76, .ireturn, 1, 0, 0, 0, []),
  (false, 77, .nop, 0, 0, 0, 0, [])]
/-- C.keep -/
def zt_21 : List (Bool × zE) := [
  (false, 0, .iload_n 1, 1, 1, 0, 0, []),
  (false, 1, .ifCond .lt 8, 3, 5, 0, 0, []),
  (false, 4, .iload_n 1, 1, 1, 0, 0, []),
  (false, 5, .iconst 2, 1, 0, 0, 2, []),
  (false, 6, .if_icmp .lt 5, 3, 7, 0, 0, []),
  (false, 9, .iconst (-1), 1, 0, 0, (-1), []),
  (false, 10, .ireturn, 1, 0, 0, 0, []),
  (false, 11, .aload_n 0, 1, 0, 0, 0, []),
  (false, 12, .getfield 27, 3, 9, 3, 3, [(381, 27)]),
  (false, 15, .iload_n 1, 1, 1, 0, 0, []),
  (false, 16, .saload, 1, 0, 0, 0, []),
  (false, 17, .ifCond .eq 7, 3, 14, 0, 0, []),
  (false, 20, .iconst 1, 1, 0, 0, 1, []),
  (false, 21, .goto 4, 3, 15, 0, 0, []),
  (false, 24, .iconst 0, 1, 0, 0, 0, []),
  (false, 25, .istore_n 2, 1, 2, 0, 0, []),
  (false, 26, .aload_n 0, 1, 0, 0, 0, []),
  (false, 27, .getfield 23, 3, 9, 2, 2, [(380, 23)]),
  (false, 30, .iload_n 1, 1, 1, 0, 0, []),
  (false, 31, .aaload, 1, 0, 0, 0, []),
  (false, 32, .aload_n 0, 1, 0, 0, 0, []),
  (false, 33, .getfield 19, 3, 9, 1, 1, [(379, 19)]),
  (false, 36, .invokevirtual 250, 3, 162, 2, 0, [(928, 0)]),
  (false, 39, .aload_n 0, 1, 0, 0, 0, []),
  (false, 40, .getfield 27, 3, 9, 3, 3, [(381, 27)]),
  (false, 43, .iload_n 1, 1, 1, 0, 0, []),
  (false, 44, .iconst 1, 1, 0, 0, 1, []),
  (false, 45, .sastore, 1, 0, 0, 0, []),
  (false, 46, .iload_n 2, 1, 2, 0, 0, []),
  (false, 47, .ireturn, 1, 0, 0, 0, []),
  (false, 48, .nop, 0, 0, 0, 0, [])]
/-- C.back -/
def zt_22 : List (Bool × zE) := [
  (false, 0, .iload_n 1, 1, 1, 0, 0, []),
  (false, 1, .ifCond .lt 8, 3, 5, 0, 0, []),
  (false, 4, .iload_n 1, 1, 1, 0, 0, []),
  (false, 5, .iconst 2, 1, 0, 0, 2, []),
  (false, 6, .if_icmp .lt 5, 3, 7, 0, 0, []),
  (false, 9, .iconst (-1), 1, 0, 0, (-1), []),
  (false, 10, .ireturn, 1, 0, 0, 0, []),
  (false, 11, .aload_n 0, 1, 0, 0, 0, []),
  (false, 12, .getfield 27, 3, 9, 3, 3, [(381, 27)]),
  (false, 15, .iload_n 1, 1, 1, 0, 0, []),
  (false, 16, .saload, 1, 0, 0, 0, []),
  (false, 17, .ifCond .ne 6, 3, 14, 0, 0, []),
  (false, 20, .bipush (-2), 2, 0, 0, (-2), []),
  (false, 22, .ireturn, 1, 0, 0, 0, []),
  (false, 23, .aload_n 0, 1, 0, 0, 0, []),
  (false, 24, .getfield 19, 3, 9, 1, 1, [(379, 19)]),
  (false, 27, .aload_n 0, 1, 0, 0, 0, []),
  (false, 28, .getfield 23, 3, 9, 2, 2, [(380, 23)]),
  (false, 31, .iload_n 1, 1, 1, 0, 0, []),
  (false, 32, .aaload, 1, 0, 0, 0, []),
  (false, 33, .invokevirtual 250, 3, 162, 2, 0, [(928, 0)]),
  (false, 36, .aload_n 0, 1, 0, 0, 0, []),
  (false, 37, .iconst 0, 1, 0, 0, 0, []),
  (false, 38, .putstatic 111, 3, 9, 15, 15, [(393, 111)]),
  (false, 41, .aload_n 0, 1, 0, 0, 0, []),
  (false, 42, .iconst 1, 1, 0, 0, 1, []),
  (false, 43, .putstatic 79, 3, 9, 16, 16, [(394, 79)]),
  (false, 46, .aload_n 0, 1, 0, 0, 0, []),
  (false, 47, .getfield 19, 3, 9, 1, 1, [(379, 19)]),
  (false, 50, .getfield 114, 3, 3, 0, 0, [(244, 114)]),
  (false, 53, .getfield 117, 3, 8, 7, 7, [(174, 117)]),
  (false, 56, .ireturn, 1, 0, 0, 0, []),
  (false, 57, .nop, 0, 0, 0, 0, [])]
/-- C.sheet -/
def zt_23 : List (Bool × zE) := [
  (false, 0, .iload_n 1, 1, 1, 0, 0, []),
  (false, 1, .invokestatic 254, 3, 40, 1, 1, [(941, 0)]),
  (false, 4, .ifCond .eq 16, 3, 9, 0, 0, []),
  (false, 7, .iload_n 2, 1, 2, 0, 0, []),
  (false, 8, .invokestatic 257, 3, 41, 1, 1, [(944, 0)]),
  (false, 11, .ifCond .eq 9, 3, 9, 0, 0, []),
  (false, 14, .iload_n 3, 1, 3, 0, 0, []),
  (false, 15, .bipush 40, 2, 0, 0, 40, []),
  (false, 17, .if_icmp .le 5, 3, 11, 0, 0, []),
  (false, 20, .iconst (-1), 1, 0, 0, (-1), []),
  (false, 21, .ireturn, 1, 0, 0, 0, []),
  (false, 22, .iload_n 3, 1, 3, 0, 0, []),
  (false, 23, .ifCond .ge 6, 3, 15, 0, 0, []),
  (false, 26, .bipush (-14), 2, 0, 0, (-14), []),
  (false, 28, .ireturn, 1, 0, 0, 0, []),
  (false, 29, .aload_n 0, 1, 0, 0, 0, []),
  (false, 30, .getfield 70, 3, 9, 12, 12, [(390, 70)]),
  (false, 33, .iload_n 1, 1, 1, 0, 0, []),
  (false, 34, .aaload, 1, 0, 0, 0, []),
  (false, 35, .iload_n 2, 1, 2, 0, 0, []),
  (false, 36, .iload_n 3, 1, 3, 0, 0, []),
  (false, 37, .invokevirtual 260, 3, 184, 3, 0, [(947, 0)]),
  (false, 40, .iconst 1, 1, 0, 0, 1, []),
  (false, 41, .ireturn, 1, 0, 0, 0, []),
  (false, 42, .nop, 0, 0, 0, 0, [])]
/-- C.lay -/
def zt_24 : List (Bool × zE) := [
  (false, 0, .iload_n 1, 1, 1, 0, 0, []),
  (false, 1, .invokestatic 254, 3, 40, 1, 1, [(941, 0)]),
  (false, 4, .ifCond .ne 5, 3, 5, 0, 0, []),
  (false, 7, .iconst (-1), 1, 0, 0, (-1), []),
  (false, 8, .ireturn, 1, 0, 0, 0, []),
  (false, 9, .aload_n 0, 1, 0, 0, 0, []),
  (false, 10, .getfield 70, 3, 9, 12, 12, [(390, 70)]),
  (false, 13, .iload_n 1, 1, 1, 0, 0, []),
  (false, 14, .aaload, 1, 0, 0, 0, []),
  (false, 15, .iload_n 2, 1, 2, 0, 0, []),
  (false, 16, .invokevirtual 264, 3, 185, 2, 1, [(957, 0)]),
  (false, 19, .istore 4, 2, 4, 0, 0, []),
  (false, 21, .iload 4, 2, 4, 0, 0, []),
  (false, 23, .ifCond .eq 9, 3, 18, 0, 0, []),
  (false, 26, .bipush (-10), 2, 0, 0, (-10), []),
  (false, 28, .iload 4, 2, 4, 0, 0, []),
  (false, 30, .isub, 1, 0, 0, 0, []),
  (false, 31, .ireturn, 1, 0, 0, 0, []),
  (false, 32, .aload_n 0, 1, 0, 0, 0, []),
  (false, 33, .getfield 70, 3, 9, 12, 12, [(390, 70)]),
  (false, 36, .iload_n 1, 1, 1, 0, 0, []),
  (false, 37, .aaload, 1, 0, 0, 0, []),
  (false, 38, .iload_n 2, 1, 2, 0, 0, []),
  (false, 39, .iload_n 3, 1, 3, 0, 0, []),
  (false, 40, .invokevirtual 267, 3, 188, 3, 0, [(961, 0)]),
  (false, 43, .iconst 1, 1, 0, 0, 1, []),
  (false, 44, .ireturn, 1, 0, 0, 0, []),
  (false, 45, .nop, 0, 0, 0, 0, [])]
/-- C.read -/
def zt_25 : List (Bool × zE) := [
  (false, 0, .iload_n 1, 1, 1, 0, 0, []),
  (false, 1, .invokestatic 254, 3, 40, 1, 1, [(941, 0)]),
  (false, 4, .ifCond .eq 22, 3, 11, 0, 0, []),
  (false, 7, .iload_n 2, 1, 2, 0, 0, []),
  (false, 8, .invokestatic 257, 3, 41, 1, 1, [(944, 0)]),
  (false, 11, .ifCond .eq 15, 3, 11, 0, 0, []),
  (false, 14, .iload 4, 2, 4, 0, 0, []),
  (false, 16, .ifCond .lt 10, 3, 11, 0, 0, []),
  (false, 19, .iload 4, 2, 4, 0, 0, []),
  (false, 21, .bipush 20, 2, 0, 0, 20, []),
  (false, 23, .if_icmp .le 5, 3, 13, 0, 0, []),
  (false, 26, .iconst (-1), 1, 0, 0, (-1), []),
  (false, 27, .ireturn, 1, 0, 0, 0, []),
  (false, 28, .aload_n 0, 1, 0, 0, 0, []),
  (false, 29, .getfield 70, 3, 9, 12, 12, [(390, 70)]),
  (false, 32, .iload_n 1, 1, 1, 0, 0, []),
  (false, 33, .aaload, 1, 0, 0, 0, []),
  (false, 34, .astore 5, 2, 5, 0, 0, []),
  (false, 36, .aload_n 0, 1, 0, 0, 0, []),
  (false, 37, .getfield 61, 3, 9, 10, 10, [(388, 61)]),
  (false, 40, .iconst 0, 1, 0, 0, 0, []),
  (false, 41, .aload_n 0, 1, 0, 0, 0, []),
  (false, 42, .getfield 65, 3, 9, 11, 11, [(389, 65)]),
  (false, 45, .iconst 0, 1, 0, 0, 0, []),
  (false, 46, .bipush 6, 2, 0, 0, 6, []),
  (false, 48, .swap, 3, 0, 0, 0, [(624, 270)]),
  (false, 51, .iconst 0, 1, 0, 0, 0, []),
  (false, 52, .istore 6, 2, 6, 0, 0, []),
  (false, 54, .iconst 0, 1, 0, 0, 0, []),
  (false, 55, .istore 7, 2, 7, 0, 0, []),
  (false, 57, .iconst 0, 1, 0, 0, 0, []),
  (false, 58, .istore 8, 2, 8, 0, 0, []),
  (true, 60, .iload 8, 2, 8, 0, 0, []),
  (false, 62, .iload 4, 2, 4, 0, 0, []),
  (false, 64, .if_icmp .ge 89, 3, 82, 0, 0, []),
  (false, 67, .iload 6, 2, 6, 0, 0, []),
  (false, 69, .ifCond .ne 84, 3, 82, 0, 0, []),
  (false, 72, .aload 5, 2, 5, 0, 0, []),
  (false, 74, .iload_n 2, 1, 2, 0, 0, []),
  (false, 75, .iload_n 3, 1, 3, 0, 0, []),
  (false, 76, .iconst 2, 1, 0, 0, 2, []),
  (false, 77, .iload 8, 2, 8, 0, 0, []),
  (false, 79, .imul, 1, 0, 0, 0, []),
  (false, 80, .iadd, 1, 0, 0, 0, []),
  (false, 81, .invokevirtual 276, 3, 186, 3, 1, [(970, 0)]),
  (false, 84, .istore 6, 2, 6, 0, 0, []),
  (false, 86, .iload 6, 2, 6, 0, 0, []),
  (false, 88, .ifCond .ne 59, 3, 80, 0, 0, []),
  (false, 91, .aload 5, 2, 5, 0, 0, []),
  (false, 93, .iload_n 3, 1, 3, 0, 0, []),
  (false, 94, .iconst 2, 1, 0, 0, 2, []),
  (false, 95, .iload 8, 2, 8, 0, 0, []),
  (false, 97, .imul, 1, 0, 0, 0, []),
  (false, 98, .iadd, 1, 0, 0, 0, []),
  (false, 99, .invokevirtual 279, 3, 187, 2, 1, [(974, 0)]),
  (false, 102, .istore 9, 2, 9, 0, 0, []),
  (false, 104, .aload 5, 2, 5, 0, 0, []),
  (false, 106, .iload_n 3, 1, 3, 0, 0, []),
  (false, 107, .iconst 2, 1, 0, 0, 2, []),
  (false, 108, .iload 8, 2, 8, 0, 0, []),
  (false, 110, .imul, 1, 0, 0, 0, []),
  (false, 111, .iadd, 1, 0, 0, 0, []),
  (false, 112, .iconst 1, 1, 0, 0, 1, []),
  (false, 113, .iadd, 1, 0, 0, 0, []),
  (false, 114, .invokevirtual 279, 3, 187, 2, 1, [(974, 0)]),
  (false, 117, .istore 10, 2, 10, 0, 0, []),
  (false, 119, .iload 9, 2, 9, 0, 0, []),
  (false, 121, .iload 10, 2, 10, 0, 0, []),
  (false, 123, .invokestatic 215, 3, 39, 2, 1, [(861, 0)]),
  (false, 126, .ifCond .ne 9, 3, 74, 0, 0, []),
  (false, 129, .bipush (-20), 2, 0, 0, (-20), []),
  (false, 131, .iload 8, 2, 8, 0, 0, []),
  (false, 133, .isub, 1, 0, 0, 0, []),
  (false, 134, .ireturn, 1, 0, 0, 0, []),
  (false, 135, .aload_n 0, 1, 0, 0, 0, []),
  (false, 136, .getfield 65, 3, 9, 11, 11, [(389, 65)]),
  (false, 139, .iload 9, 2, 9, 0, 0, []),
  (false, 141, .iload 10, 2, 10, 0, 0, []),
  (false, 143, .iastore, 1, 0, 0, 0, []),
  (false, 144, .iinc 7 1, 3, 7, 0, 1, []),
  (false, 147, .iinc 8 1, 3, 8, 0, 1, []),
  (false, 150, .goto (-90), 3, 32, 0, 0, []),
  (false, 153, .aload_n 0, 1, 0, 0, 0, []),
  (false, 154, .getfield 65, 3, 9, 11, 11, [(389, 65)]),
  (false, 157, .iconst 0, 1, 0, 0, 0, []),
  (false, 158, .aload_n 0, 1, 0, 0, 0, []),
  (false, 159, .getfield 61, 3, 9, 10, 10, [(388, 61)]),
  (false, 162, .iconst 0, 1, 0, 0, 0, []),
  (false, 163, .bipush 6, 2, 0, 0, 6, []),
  (false, 165, .swap, 3, 0, 0, 0, [(624, 270)]),
  (false, 168, .aload_n 0, 1, 0, 0, 0, []),
  (false, 169, .iload 6, 2, 6, 0, 0, []),
  (false, 171, .putfield 282, 3, 9, 13, 13, [(391, 282)]),
  (false, 174, .iload 7, 2, 7, 0, 0, []),
  (false, 176, .ireturn, 1, 0, 0, 0, []),
  (false, 177, .nop, 0, 0, 0, 0, [])]
/-- C.torn -/
def zt_26 : List (Bool × zE) := [
  (false, 0, .aload_n 0, 1, 0, 0, 0, []),
  (false, 1, .getfield 282, 3, 9, 13, 13, [(391, 282)]),
  (false, 4, .ireturn, 1, 0, 0, 0, []),
  (false, 5, .nop, 0, 0, 0, 0, [])]
/-- C.count -/
def zt_27 : List (Bool × zE) := [
  (false, 0, .iload_n 1, 1, 1, 0, 0, []),
  (false, 1, .tableswitch 115 0 4 #[35, 65, 76, 105, 110], 35, 46, 0, 0, [(0, 2), (1, 20), (2, 25), (3, 40), (4, 43)]),
  (false, 36, .aload_n 0, 1, 0, 0, 0, []),
  (false, 37, .getfield 27, 3, 9, 3, 3, [(381, 27)]),
  (false, 40, .iconst 0, 1, 0, 0, 0, []),
  (false, 41, .saload, 1, 0, 0, 0, []),
  (false, 42, .ifCond .eq 7, 3, 9, 0, 0, []),
  (false, 45, .iconst 1, 1, 0, 0, 1, []),
  (false, 46, .goto 4, 3, 10, 0, 0, []),
  (false, 49, .iconst 0, 1, 0, 0, 0, []),
  (false, 50, .aload_n 0, 1, 0, 0, 0, []),
  (false, 51, .getfield 27, 3, 9, 3, 3, [(381, 27)]),
  (false, 54, .iconst 1, 1, 0, 0, 1, []),
  (false, 55, .saload, 1, 0, 0, 0, []),
  (false, 56, .ifCond .eq 7, 3, 17, 0, 0, []),
  (false, 59, .iconst 1, 1, 0, 0, 1, []),
  (false, 60, .goto 4, 3, 18, 0, 0, []),
  (false, 63, .iconst 0, 1, 0, 0, 0, []),
  (false, 64, .iadd, 1, 0, 0, 0, []),
  (false, 65, .ireturn, 1, 0, 0, 0, []),
  (false, 66, .aload_n 0, 1, 0, 0, 0, []),
  (false, 67, .getfield 10, 3, 9, 0, 0, [(378, 10)]),
  (false, 70, .getfield 83, 3, 4, 0, 0, [(201, 83)]),
  (false, 73, .getfield 93, 3, 7, 1, 1, [(129, 93)]),
  (false, 76, .ireturn, 1, 0, 0, 0, []),
  (false, 77, .aload_n 0, 1, 0, 0, 0, []),
  (false, 78, .getfield 70, 3, 9, 12, 12, [(390, 70)]),
  (false, 81, .iconst 0, 1, 0, 0, 0, []),
  (false, 82, .aaload, 1, 0, 0, 0, []),
  (false, 83, .getfield 285, 3, 6, 1, 1, [(368, 285)]),
  (false, 86, .bipush (-4), 2, 0, 0, (-4), []),
  (false, 88, .if_icmp .ne 8, 3, 34, 0, 0, []),
  (false, 91, .bipush (-4), 2, 0, 0, (-4), []),
  (false, 93, .goto 12, 3, 39, 0, 0, []),
  (false, 96, .aload_n 0, 1, 0, 0, 0, []),
  (false, 97, .getfield 70, 3, 9, 12, 12, [(390, 70)]),
  (false, 100, .iconst 0, 1, 0, 0, 0, []),
  (false, 101, .aaload, 1, 0, 0, 0, []),
  (false, 102, .getfield 288, 3, 6, 2, 2, [(370, 288)]),
  (false, 105, .ireturn, 1, 0, 0, 0, []),
  (false, 106, .aload_n 0, 1, 0, 0, 0, []),
  (false, 107, .invokevirtual 289, 3, 32, 1, 1, [(986, 0)]),
  (false, 110, .ireturn, 1, 0, 0, 0, []),
  (false, 111, .aload_n 0, 1, 0, 0, 0, []),
  (false, 112, .invokevirtual 292, 3, 33, 1, 1, [(990, 0)]),
  (false, 115, .ireturn, 1, 0, 0, 0, []),
  (false, 116, .iconst (-1), 1, 0, 0, (-1), []),
  (false, 117, .ireturn, 1, 0, 0, 0, []),
  (false, 118, .nop, 0, 0, 0, 0, [])]
/-- C.refresh -/
def zt_28 : List (Bool × zE) := [
  (false, 0, .aload_n 0, 1, 0, 0, 0, []),
  (false, 1, .getfield 79, 3, 9, 16, 16, [(394, 79)]),
  (false, 4, .ifCond .eq 25, 3, 14, 0, 0, []),
  (false, 7, .aload_n 0, 1, 0, 0, 0, []),
  (false, 8, .getfield 34, 3, 9, 4, 4, [(382, 34)]),
  (false, 11, .aload_n 0, 1, 0, 0, 0, []),
  (false, 12, .getfield 19, 3, 9, 1, 1, [(379, 19)]),
  (false, 15, .invokevirtual 295, 3, 151, 2, 0, [(639, 0)]),
  (false, 18, .aload_n 0, 1, 0, 0, 0, []),
  (false, 19, .bipush (-4), 2, 0, 0, (-4), []),
  (false, 21, .putfield 75, 3, 9, 14, 14, [(392, 75)]),
  (false, 24, .aload_n 0, 1, 0, 0, 0, []),
  (false, 25, .iconst 0, 1, 0, 0, 0, []),
  (false, 26, .putstatic 79, 3, 9, 16, 16, [(394, 79)]),
  (false, 29, .return_, 1, 0, 0, 0, []),
  (false, 30, .nop, 0, 0, 0, 0, [])]
/-- C.write -/
def zt_29 : List (Bool × zE) := [
  (false, 0, .aload_n 0, 1, 0, 0, 0, []),
  (false, 1, .getfield 75, 3, 9, 14, 14, [(392, 75)]),
  (false, 4, .iload_n 1, 1, 1, 0, 0, []),
  (false, 5, .if_icmp .eq 23, 3, 14, 0, 0, []),
  (false, 8, .aload_n 0, 1, 0, 0, 0, []),
  (false, 9, .getfield 41, 3, 9, 5, 5, [(383, 41)]),
  (false, 12, .aload_n 0, 1, 0, 0, 0, []),
  (false, 13, .getfield 34, 3, 9, 4, 4, [(382, 34)]),
  (false, 16, .getfield 150, 3, 2, 1, 1, [(286, 150)]),
  (false, 19, .iload_n 1, 1, 1, 0, 0, []),
  (false, 20, .invokevirtual 297, 3, 145, 3, 0, [(736, 0)]),
  (false, 23, .aload_n 0, 1, 0, 0, 0, []),
  (false, 24, .iload_n 1, 1, 1, 0, 0, []),
  (false, 25, .putfield 75, 3, 9, 14, 14, [(392, 75)]),
  (false, 28, .return_, 1, 0, 0, 0, []),
  (false, 29, .nop, 0, 0, 0, 0, [])]
/-- C.lettersOfAll -/
def zt_30 : List (Bool × zE) := [
  (false, 0, .iconst 0, 1, 0, 0, 0, []),
  (false, 1, .istore_n 1, 1, 1, 0, 0, []),
  (false, 2, .iconst 0, 1, 0, 0, 0, []),
  (false, 3, .istore_n 2, 1, 2, 0, 0, []),
  (true, 4, .iload_n 2, 1, 2, 0, 0, []),
  (false, 5, .aload_n 0, 1, 0, 0, 0, []),
  (false, 6, .getfield 34, 3, 9, 4, 4, [(382, 34)]),
  (false, 9, .getfield 150, 3, 2, 1, 1, [(286, 150)]),
  (false, 12, .getfield 117, 3, 8, 7, 7, [(174, 117)]),
  (false, 15, .if_icmp .ge 39, 3, 28, 0, 0, []),
  (false, 18, .aload_n 0, 1, 0, 0, 0, []),
  (false, 19, .getfield 41, 3, 9, 5, 5, [(383, 41)]),
  (false, 22, .aload_n 0, 1, 0, 0, 0, []),
  (false, 23, .getfield 34, 3, 9, 4, 4, [(382, 34)]),
  (false, 26, .getfield 150, 3, 2, 1, 1, [(286, 150)]),
  (false, 29, .iload_n 2, 1, 2, 0, 0, []),
  (false, 30, .invokevirtual 297, 3, 145, 3, 0, [(736, 0)]),
  (false, 33, .aload_n 0, 1, 0, 0, 0, []),
  (false, 34, .iload_n 2, 1, 2, 0, 0, []),
  (false, 35, .putfield 75, 3, 9, 14, 14, [(392, 75)]),
  (false, 38, .iload_n 1, 1, 1, 0, 0, []),
  (false, 39, .aload_n 0, 1, 0, 0, 0, []),
  (false, 40, .getfield 41, 3, 9, 5, 5, [(383, 41)]),
  (false, 43, .getfield 193, 3, 1, 1, 1, [(322, 193)]),
  (false, 46, .iadd, 1, 0, 0, 0, []),
  (false, 47, .istore_n 1, 1, 1, 0, 0, []),
  (false, 48, .iinc 2 1, 3, 2, 0, 1, []),
  (false, 51, .goto (-47), 3, 4, 0, 0, []),
  (false, 54, .iload_n 1, 1, 1, 0, 0, []),
  (false, 55, .ireturn, 1, 0, 0, 0, []),
  (false, 56, .nop, 0, 0, 0, 0, [])]
/-- C.compareRuns -/
def zt_31 : List (Bool × zE) := [
  (false, 0, .iload_n 1, 1, 1, 0, 0, []),
  (false, 1, .iconst 1, 1, 0, 0, 1, []),
  (false, 2, .if_icmp .ne 19, 3, 11, 0, 0, []),
  (false, 5, .aload_n 0, 1, 0, 0, 0, []),
  (false, 6, .getfield 55, 3, 9, 8, 8, [(386, 55)]),
  (false, 9, .getfield 225, 3, 5, 5, 5, [(345, 225)]),
  (false, 12, .ifCond .eq 7, 3, 9, 0, 0, []),
  (false, 15, .iconst 1, 1, 0, 0, 1, []),
  (false, 16, .goto 4, 3, 10, 0, 0, []),
  (false, 19, .iconst 0, 1, 0, 0, 0, []),
  (false, 20, .ireturn, 1, 0, 0, 0, []),
  (false, 21, .iload_n 1, 1, 1, 0, 0, []),
  (false, 22, .iconst 2, 1, 0, 0, 2, []),
  (false, 23, .if_icmp .ne 19, 3, 22, 0, 0, []),
  (false, 26, .aload_n 0, 1, 0, 0, 0, []),
  (false, 27, .getfield 55, 3, 9, 8, 8, [(386, 55)]),
  (false, 30, .getfield 228, 3, 5, 4, 4, [(343, 228)]),
  (false, 33, .aload_n 0, 1, 0, 0, 0, []),
  (false, 34, .getfield 58, 3, 9, 9, 9, [(387, 58)]),
  (false, 37, .getfield 228, 3, 5, 4, 4, [(343, 228)]),
  (false, 40, .isub, 1, 0, 0, 0, []),
  (false, 41, .ireturn, 1, 0, 0, 0, []),
  (false, 42, .aload_n 0, 1, 0, 0, 0, []),
  (false, 43, .getfield 55, 3, 9, 8, 8, [(386, 55)]),
  (false, 46, .getfield 230, 3, 5, 1, 1, [(337, 230)]),
  (false, 49, .aload_n 0, 1, 0, 0, 0, []),
  (false, 50, .getfield 58, 3, 9, 9, 9, [(387, 58)]),
  (false, 53, .getfield 230, 3, 5, 1, 1, [(337, 230)]),
  (false, 56, .if_icmp .ne 20, 3, 36, 0, 0, []),
  (false, 59, .aload_n 0, 1, 0, 0, 0, []),
  (false, 60, .getfield 55, 3, 9, 8, 8, [(386, 55)]),
  (false, 63, .getfield 225, 3, 5, 5, 5, [(345, 225)]),
  (false, 66, .aload_n 0, 1, 0, 0, 0, []),
  (false, 67, .getfield 58, 3, 9, 9, 9, [(387, 58)]),
  (false, 70, .getfield 225, 3, 5, 5, 5, [(345, 225)]),
  (false, 73, .if_icmp .eq 5, 3, 38, 0, 0, []),
  (false, 76, .iconst 0, 1, 0, 0, 0, []),
  (false, 77, .ireturn, 1, 0, 0, 0, []),
  (false, 78, .iconst 0, 1, 0, 0, 0, []),
  (false, 79, .istore_n 2, 1, 2, 0, 0, []),
  (true, 80, .iload_n 2, 1, 2, 0, 0, []),
  (false, 81, .bipush 6, 2, 0, 0, 6, []),
  (false, 83, .if_icmp .ge 49, 3, 65, 0, 0, []),
  (false, 86, .aload_n 0, 1, 0, 0, 0, []),
  (false, 87, .getfield 34, 3, 9, 4, 4, [(382, 34)]),
  (false, 90, .getfield 131, 3, 2, 0, 0, [(284, 131)]),
  (false, 93, .getfield 135, 3, 0, 1, 1, [(274, 135)]),
  (false, 96, .iload_n 2, 1, 2, 0, 0, []),
  (false, 97, .invokestatic 194, 3, 43, 2, 1, [(823, 0)]),
  (false, 100, .ifCond .eq 26, 3, 63, 0, 0, []),
  (false, 103, .aload_n 0, 1, 0, 0, 0, []),
  (false, 104, .getfield 55, 3, 9, 8, 8, [(386, 55)]),
  (false, 107, .getfield 229, 3, 5, 0, 0, [(335, 229)]),
  (false, 110, .iload_n 2, 1, 2, 0, 0, []),
  (false, 111, .iaload, 1, 0, 0, 0, []),
  (false, 112, .aload_n 0, 1, 0, 0, 0, []),
  (false, 113, .getfield 58, 3, 9, 9, 9, [(387, 58)]),
  (false, 116, .getfield 229, 3, 5, 0, 0, [(335, 229)]),
  (false, 119, .iload_n 2, 1, 2, 0, 0, []),
  (false, 120, .iaload, 1, 0, 0, 0, []),
  (false, 121, .if_icmp .eq 5, 3, 63, 0, 0, []),
  (false, 124, .iconst 0, 1, 0, 0, 0, []),
  (false, 125, .ireturn, 1, 0, 0, 0, []),
  (false, 126, .iinc 2 1, 3, 2, 0, 1, []),
  (false, 129, .goto (-49), 3, 40, 0, 0, []),
  (false, 132, .iconst 1, 1, 0, 0, 1, []),
  (false, 133, .ireturn, 1, 0, 0, 0, []),
  (false, 134, .nop, 0, 0, 0, 0, [])]
/-- C.startsSum -/
def zt_32 : List (Bool × zE) := [
  (false, 0, .iconst 0, 1, 0, 0, 0, []),
  (false, 1, .istore_n 1, 1, 1, 0, 0, []),
  (false, 2, .iconst 0, 1, 0, 0, 0, []),
  (false, 3, .istore_n 2, 1, 2, 0, 0, []),
  (true, 4, .iload_n 2, 1, 2, 0, 0, []),
  (false, 5, .bipush 6, 2, 0, 0, 6, []),
  (false, 7, .if_icmp .ge 18, 3, 16, 0, 0, []),
  (false, 10, .iload_n 1, 1, 1, 0, 0, []),
  (false, 11, .aload_n 0, 1, 0, 0, 0, []),
  (false, 12, .getfield 61, 3, 9, 10, 10, [(388, 61)]),
  (false, 15, .iload_n 2, 1, 2, 0, 0, []),
  (false, 16, .iaload, 1, 0, 0, 0, []),
  (false, 17, .iadd, 1, 0, 0, 0, []),
  (false, 18, .istore_n 1, 1, 1, 0, 0, []),
  (false, 19, .iinc 2 1, 3, 2, 0, 1, []),
  (false, 22, .goto (-18), 3, 4, 0, 0, []),
  (false, 25, .iload_n 1, 1, 1, 0, 0, []),
  (false, 26, .ireturn, 1, 0, 0, 0, []),
  (false, 27, .nop, 0, 0, 0, 0, [])]
/-- C.numbersSum -/
def zt_33 : List (Bool × zE) := [
  (false, 0, .iconst 0, 1, 0, 0, 0, []),
  (false, 1, .istore_n 1, 1, 1, 0, 0, []),
  (false, 2, .iconst 0, 1, 0, 0, 0, []),
  (false, 3, .istore_n 2, 1, 2, 0, 0, []),
  (true, 4, .iload_n 2, 1, 2, 0, 0, []),
  (false, 5, .aload_n 0, 1, 0, 0, 0, []),
  (false, 6, .getfield 19, 3, 9, 1, 1, [(379, 19)]),
  (false, 9, .getfield 114, 3, 3, 0, 0, [(244, 114)]),
  (false, 12, .getfield 128, 3, 8, 8, 8, [(178, 128)]),
  (false, 15, .if_icmp .ge 45, 3, 32, 0, 0, []),
  (false, 18, .iload_n 1, 1, 1, 0, 0, []),
  (false, 19, .aload_n 0, 1, 0, 0, 0, []),
  (false, 20, .getfield 19, 3, 9, 1, 1, [(379, 19)]),
  (false, 23, .getfield 114, 3, 3, 0, 0, [(244, 114)]),
  (false, 26, .iload_n 2, 1, 2, 0, 0, []),
  (false, 27, .iconst 2, 1, 0, 0, 2, []),
  (false, 28, .invokevirtual 171, 3, 199, 3, 1, [(797, 0)]),
  (false, 31, .invokestatic 300, 3, 34, 1, 1, [(994, 0)]),
  (false, 34, .iadd, 1, 0, 0, 0, []),
  (false, 35, .istore_n 1, 1, 1, 0, 0, []),
  (false, 36, .iload_n 1, 1, 1, 0, 0, []),
  (false, 37, .aload_n 0, 1, 0, 0, 0, []),
  (false, 38, .getfield 19, 3, 9, 1, 1, [(379, 19)]),
  (false, 41, .getfield 114, 3, 3, 0, 0, [(244, 114)]),
  (false, 44, .iload_n 2, 1, 2, 0, 0, []),
  (false, 45, .iconst 4, 1, 0, 0, 4, []),
  (false, 46, .invokevirtual 171, 3, 199, 3, 1, [(797, 0)]),
  (false, 49, .invokestatic 300, 3, 34, 1, 1, [(994, 0)]),
  (false, 52, .iadd, 1, 0, 0, 0, []),
  (false, 53, .istore_n 1, 1, 1, 0, 0, []),
  (false, 54, .iinc 2 1, 3, 2, 0, 1, []),
  (false, 57, .goto (-53), 3, 4, 0, 0, []),
  (false, 60, .iload_n 1, 1, 1, 0, 0, []),
  (false, 61, .ireturn, 1, 0, 0, 0, []),
  (false, 62, .nop, 0, 0, 0, 0, [])]
/-- C.numberOrZero -/
def zt_34 : List (Bool × zE) := [
  (false, 0, .iload_n 0, 1, 0, 0, 0, []),
  (false, 1, .ifCond .lt 13, 3, 7, 0, 0, []),
  (false, 4, .iload_n 0, 1, 0, 0, 0, []),
  (false, 5, .bipush 100, 2, 0, 0, 100, []),
  (false, 7, .if_icmp .ge 7, 3, 7, 0, 0, []),
  (false, 10, .iload_n 0, 1, 0, 0, 0, []),
  (false, 11, .goto 4, 3, 8, 0, 0, []),
  (false, 14, .iconst 0, 1, 0, 0, 0, []),
  (false, 15, .ireturn, 1, 0, 0, 0, []),
  (false, 16, .nop, 0, 0, 0, 0, [])]
/-- C.isBlock -/
def zt_35 : List (Bool × zE) := [
  (false, 0, .iload_n 1, 1, 1, 0, 0, []),
  (false, 1, .ifCond .lt 21, 3, 10, 0, 0, []),
  (false, 4, .iload_n 1, 1, 1, 0, 0, []),
  (false, 5, .aload_n 0, 1, 0, 0, 0, []),
  (false, 6, .getfield 19, 3, 9, 1, 1, [(379, 19)]),
  (false, 9, .getfield 114, 3, 3, 0, 0, [(244, 114)]),
  (false, 12, .getfield 117, 3, 8, 7, 7, [(174, 117)]),
  (false, 15, .if_icmp .ge 7, 3, 10, 0, 0, []),
  (false, 18, .iconst 1, 1, 0, 0, 1, []),
  (false, 19, .goto 4, 3, 11, 0, 0, []),
  (false, 22, .iconst 0, 1, 0, 0, 0, []),
  (false, 23, .freturn, 1, 0, 0, 0, []),
  (false, 24, .nop, 0, 0, 0, 0, [])]
/-- C.isPoint -/
def zt_36 : List (Bool × zE) := [
  (false, 0, .iload_n 1, 1, 1, 0, 0, []),
  (false, 1, .ifCond .lt 21, 3, 10, 0, 0, []),
  (false, 4, .iload_n 1, 1, 1, 0, 0, []),
  (false, 5, .aload_n 0, 1, 0, 0, 0, []),
  (false, 6, .getfield 34, 3, 9, 4, 4, [(382, 34)]),
  (false, 9, .getfield 150, 3, 2, 1, 1, [(286, 150)]),
  (false, 12, .getfield 117, 3, 8, 7, 7, [(174, 117)]),
  (false, 15, .if_icmp .ge 7, 3, 10, 0, 0, []),
  (false, 18, .iconst 1, 1, 0, 0, 1, []),
  (false, 19, .goto 4, 3, 11, 0, 0, []),
  (false, 22, .iconst 0, 1, 0, 0, 0, []),
  (false, 23, .freturn, 1, 0, 0, 0, []),
  (false, 24, .nop, 0, 0, 0, 0, [])]
/-- C.isLeft -/
def zt_37 : List (Bool × zE) := [
  (false, 0, .aload_n 0, 1, 0, 0, 0, []),
  (false, 1, .iload_n 1, 1, 1, 0, 0, []),
  (false, 2, .invokevirtual 180, 3, 36, 2, 1, [(811, 0)]),
  (false, 5, .ifCond .eq 27, 3, 16, 0, 0, []),
  (false, 8, .iload_n 2, 1, 2, 0, 0, []),
  (false, 9, .ifCond .lt 23, 3, 16, 0, 0, []),
  (false, 12, .iload_n 2, 1, 2, 0, 0, []),
  (false, 13, .aload_n 0, 1, 0, 0, 0, []),
  (false, 14, .getfield 34, 3, 9, 4, 4, [(382, 34)]),
  (false, 17, .getfield 150, 3, 2, 1, 1, [(286, 150)]),
  (false, 20, .getfield 157, 3, 8, 1, 1, [(153, 157)]),
  (false, 23, .iload_n 1, 1, 1, 0, 0, []),
  (false, 24, .iaload, 1, 0, 0, 0, []),
  (false, 25, .if_icmp .ge 7, 3, 16, 0, 0, []),
  (false, 28, .iconst 1, 1, 0, 0, 1, []),
  (false, 29, .goto 4, 3, 17, 0, 0, []),
  (false, 32, .iconst 0, 1, 0, 0, 0, []),
  (false, 33, .freturn, 1, 0, 0, 0, []),
  (false, 34, .nop, 0, 0, 0, 0, [])]
/-- C.isVariable -/
def zt_38 : List (Bool × zE) := [
  (false, 0, .iload_n 0, 1, 0, 0, 0, []),
  (false, 1, .ifCond .lt 13, 3, 7, 0, 0, []),
  (false, 4, .iload_n 0, 1, 0, 0, 0, []),
  (false, 5, .bipush 6, 2, 0, 0, 6, []),
  (false, 7, .if_icmp .ge 7, 3, 7, 0, 0, []),
  (false, 10, .iconst 1, 1, 0, 0, 1, []),
  (false, 11, .goto 4, 3, 8, 0, 0, []),
  (false, 14, .iconst 0, 1, 0, 0, 0, []),
  (false, 15, .freturn, 1, 0, 0, 0, []),
  (false, 16, .nop, 0, 0, 0, 0, [])]
/-- C.canBegin -/
def zt_39 : List (Bool × zE) := [
  (false, 0, .iload_n 0, 1, 0, 0, 0, []),
  (false, 1, .invokestatic 174, 3, 38, 1, 1, [(802, 0)]),
  (false, 4, .ifCond .eq 17, 3, 10, 0, 0, []),
  (false, 7, .iload_n 1, 1, 1, 0, 0, []),
  (false, 8, .ifCond .lt 13, 3, 10, 0, 0, []),
  (false, 11, .iload_n 1, 1, 1, 0, 0, []),
  (false, 12, .bipush 99, 2, 0, 0, 99, []),
  (false, 14, .if_icmp .gt 7, 3, 10, 0, 0, []),
  (false, 17, .iconst 1, 1, 0, 0, 1, []),
  (false, 18, .goto 4, 3, 11, 0, 0, []),
  (false, 21, .iconst 0, 1, 0, 0, 0, []),
  (false, 22, .freturn, 1, 0, 0, 0, []),
  (false, 23, .nop, 0, 0, 0, 0, [])]
/-- C.isSheet -/
def zt_40 : List (Bool × zE) := [
  (false, 0, .iload_n 0, 1, 0, 0, 0, []),
  (false, 1, .ifCond .lt 12, 3, 7, 0, 0, []),
  (false, 4, .iload_n 0, 1, 0, 0, 0, []),
  (false, 5, .iconst 4, 1, 0, 0, 4, []),
  (false, 6, .if_icmp .ge 7, 3, 7, 0, 0, []),
  (false, 9, .iconst 1, 1, 0, 0, 1, []),
  (false, 10, .goto 4, 3, 8, 0, 0, []),
  (false, 13, .iconst 0, 1, 0, 0, 0, []),
  (false, 14, .freturn, 1, 0, 0, 0, []),
  (false, 15, .nop, 0, 0, 0, 0, [])]
/-- C.isLane -/
def zt_41 : List (Bool × zE) := [
  (false, 0, .iload_n 0, 1, 0, 0, 0, []),
  (false, 1, .ifCond .lt 12, 3, 7, 0, 0, []),
  (false, 4, .iload_n 0, 1, 0, 0, 0, []),
  (false, 5, .iconst 3, 1, 0, 0, 3, []),
  (false, 6, .if_icmp .ge 7, 3, 7, 0, 0, []),
  (false, 9, .iconst 1, 1, 0, 0, 1, []),
  (false, 10, .goto 4, 3, 8, 0, 0, []),
  (false, 13, .iconst 0, 1, 0, 0, 0, []),
  (false, 14, .freturn, 1, 0, 0, 0, []),
  (false, 15, .nop, 0, 0, 0, 0, [])]
/-- C.allBits -/
def zt_42 : List (Bool × zE) := [
  (false, 0, .bipush 63, 2, 0, 0, 63, []),
  (false, 2, .ireturn, 1, 0, 0, 0, []),
  (false, 3, .nop, 0, 0, 0, 0, [])]
/-- C.hasBit -/
def zt_43 : List (Bool × zE) := [
  (false, 0, .iload_n 0, 1, 0, 0, 0, []),
  (false, 1, .iload_n 1, 1, 1, 0, 0, []),
  (false, 2, .ishr, 1, 0, 0, 0, []),
  (false, 3, .iconst 1, 1, 0, 0, 1, []),
  (false, 4, .iand, 1, 0, 0, 0, []),
  (false, 5, .ifCond .eq 7, 3, 8, 0, 0, []),
  (false, 8, .iconst 1, 1, 0, 0, 1, []),
  (false, 9, .goto 4, 3, 9, 0, 0, []),
  (false, 12, .iconst 0, 1, 0, 0, 0, []),
  (false, 13, .freturn, 1, 0, 0, 0, []),
  (false, 14, .nop, 0, 0, 0, 0, [])]
/-- C.variableOf -/
def zt_44 : List (Bool × zE) := [
  (false, 0, .iload_n 0, 1, 0, 0, 0, []),
  (false, 1, .bipush 100, 2, 0, 0, 100, []),
  (false, 3, .isub, 1, 0, 0, 0, []),
  (false, 4, .istore_n 1, 1, 1, 0, 0, []),
  (false, 5, .iload_n 0, 1, 0, 0, 0, []),
  (false, 6, .bipush 100, 2, 0, 0, 100, []),
  (false, 8, .if_icmp .lt 13, 3, 12, 0, 0, []),
  (false, 11, .iload_n 1, 1, 1, 0, 0, []),
  (false, 12, .bipush 6, 2, 0, 0, 6, []),
  (false, 14, .if_icmp .ge 7, 3, 12, 0, 0, []),
  (false, 17, .iload_n 1, 1, 1, 0, 0, []),
  (false, 18, .goto 5, 3, 13, 0, 0, []),
  (false, 21, .bipush (-4), 2, 0, 0, (-4), []),
  (false, 23, .ireturn, 1, 0, 0, 0, []),
  (false, 24, .nop, 0, 0, 0, 0, [])]
/-- C.bitOf -/
def zt_45 : List (Bool × zE) := [
  (false, 0, .iload_n 0, 1, 0, 0, 0, []),
  (false, 1, .bipush 100, 2, 0, 0, 100, []),
  (false, 3, .if_icmp .ge 7, 3, 5, 0, 0, []),
  (false, 6, .iconst 0, 1, 0, 0, 0, []),
  (false, 7, .goto 9, 3, 10, 0, 0, []),
  (false, 10, .iconst 1, 1, 0, 0, 1, []),
  (false, 11, .iload_n 0, 1, 0, 0, 0, []),
  (false, 12, .bipush 100, 2, 0, 0, 100, []),
  (false, 14, .isub, 1, 0, 0, 0, []),
  (false, 15, .ishl, 1, 0, 0, 0, []),
  (false, 16, .ireturn, 1, 0, 0, 0, []),
  (false, 17, .nop, 0, 0, 0, 0, [])]
/-- C.valueOf -/
def zt_46 : List (Bool × zE) := [
  (false, 0, .iload_n 0, 1, 0, 0, 0, []),
  (false, 1, .invokestatic 303, 3, 44, 1, 1, [(883, 0)]),
  (false, 4, .istore_n 2, 1, 2, 0, 0, []),
  (false, 5, .iload_n 2, 1, 2, 0, 0, []),
  (false, 6, .ifCond .lt 15, 3, 13, 0, 0, []),
  (false, 9, .iload_n 2, 1, 2, 0, 0, []),
  (false, 10, .aload_n 1, 1, 1, 0, 0, []),
  (false, 11, .arraylength, 1, 0, 0, 0, []),
  (false, 12, .if_icmp .ge 9, 3, 13, 0, 0, []),
  (false, 15, .aload_n 1, 1, 1, 0, 0, []),
  (false, 16, .iload_n 2, 1, 2, 0, 0, []),
  (false, 17, .iaload, 1, 0, 0, 0, []),
  (false, 18, .goto 4, 3, 14, 0, 0, []),
  (false, 21, .iload_n 0, 1, 0, 0, 0, []),
  (false, 22, .ireturn, 1, 0, 0, 0, []),
  (false, 23, .nop, 0, 0, 0, 0, [])]
/-- C.result -/
def zt_47 : List (Bool × zE) := [
  (false, 0, .iload_n 0, 1, 0, 0, 0, []),
  (false, 1, .tableswitch 55 0 2 #[27, 36, 44], 27, 21, 0, 0, [(0, 2), (1, 8), (2, 14)]),
  (false, 28, .bipush 99, 2, 0, 0, 99, []),
  (false, 30, .iload_n 1, 1, 1, 0, 0, []),
  (false, 31, .iload_n 2, 1, 2, 0, 0, []),
  (false, 32, .iadd, 1, 0, 0, 0, []),
  (false, 33, .monitorexit, 3, 0, 0, 0, [(621, 306)]),
  (false, 36, .ireturn, 1, 0, 0, 0, []),
  (false, 37, .iconst 0, 1, 0, 0, 0, []),
  (false, 38, .iload_n 1, 1, 1, 0, 0, []),
  (false, 39, .iload_n 2, 1, 2, 0, 0, []),
  (false, 40, .isub, 1, 0, 0, 0, []),
  (false, 41, .monitorenter, 3, 0, 0, 0, [(724, 311)]),
  (false, 44, .ireturn, 1, 0, 0, 0, []),
  (false, 45, .iload_n 1, 1, 1, 0, 0, []),
  (false, 46, .iload_n 2, 1, 2, 0, 0, []),
  (false, 47, .if_icmp .ne 7, 3, 19, 0, 0, []),
  (false, 50, .iconst 1, 1, 0, 0, 1, []),
  (false, 51, .goto 4, 3, 20, 0, 0, []),
  (false, 54, .iconst 0, 1, 0, 0, 0, []),
  (false, 55, .ireturn, 1, 0, 0, 0, []),
  (false, 56, .iload_n 1, 1, 1, 0, 0, []),
  (false, 57, .iload_n 2, 1, 2, 0, 0, []),
  (false, 58, .if_icmp .le 7, 3, 26, 0, 0, []),
  (false, 61, .iconst 1, 1, 0, 0, 1, []),
  (false, 62, .goto 4, 3, 27, 0, 0, []),
  (false, 65, .iconst 0, 1, 0, 0, 0, []),
  (false, 66, .ireturn, 1, 0, 0, 0, []),
  (false, 67, .nop, 0, 0, 0, 0, [])]
/-- C.nameOf -/
def zt_48 : List (Bool × zE) := [
  (false, 0, .iload_n 0, 1, 0, 0, 0, []),
  (false, 1, .tableswitch 39 0 2 #[27, 31, 35], 27, 8, 0, 0, [(0, 2), (1, 4), (2, 6)]),
  (false, 28, .ldc_w 314, 3, 1003, 1, 578, []),
  (false, 31, .areturn, 1, 0, 0, 0, []),
  (false, 32, .ldc_w 316, 3, 1004, 1, 579, []),
  (false, 35, .areturn, 1, 0, 0, 0, []),
  (false, 36, .ldc_w 318, 3, 1005, 1, 580, []),
  (false, 39, .areturn, 1, 0, 0, 0, []),
  (false, 40, .ldc_w 320, 3, 1006, 1, 581, []),
  (false, 43, .areturn, 1, 0, 0, 0, []),
  (false, 44, .nop, 0, 0, 0, 0, [])]
/-- C.copyRow -/
def zt_49 : List (Bool × zE) := [
  (false, 0, .aload_n 0, 1, 0, 0, 0, []),
  (false, 1, .iconst 0, 1, 0, 0, 0, []),
  (false, 2, .aload_n 1, 1, 1, 0, 0, []),
  (false, 3, .iconst 0, 1, 0, 0, 0, []),
  (false, 4, .aload_n 0, 1, 0, 0, 0, []),
  (false, 5, .arraylength, 1, 0, 0, 0, []),
  (false, 6, .aload_n 1, 1, 1, 0, 0, []),
  (false, 7, .arraylength, 1, 0, 0, 0, []),
  (false, 8, .monitorexit, 3, 0, 0, 0, [(621, 306)]),
  (false, 11, .swap, 3, 0, 0, 0, [(624, 270)]),
  (false, 14, .return_, 1, 0, 0, 0, []),
  (false, 15, .nop, 0, 0, 0, 0, [])]
/-- M.in -/
def zt_50 : List (Bool × zE) := [
  (false, 0, .lload_n 0, 1, 0, 0, 0, []),
  (false, 1, .lload_n 2, 1, 2, 0, 0, []),
  (false, 2, .lcmp, 1, 0, 0, 0, []),
  (false, 3, .ifCond .lt 14, 3, 10, 0, 0, []),
  (false, 6, .lload_n 0, 1, 0, 0, 0, []),
  (false, 7, .lload 4, 2, 4, 0, 0, []),
  (false, 9, .lcmp, 1, 0, 0, 0, []),
  (false, 10, .ifCond .gt 7, 3, 10, 0, 0, []),
  (false, 13, .iconst 1, 1, 0, 0, 1, []),
  (false, 14, .goto 4, 3, 11, 0, 0, []),
  (false, 17, .iconst 0, 1, 0, 0, 0, []),
  (false, 18, .freturn, 1, 0, 0, 0, []),
  (false, 19, .nop, 0, 0, 0, 0, [])]
/-- M.feed -/
def zt_51 : List (Bool × zE) := [
  (false, 0, .iload_n 1, 1, 1, 0, 0, []),
  (false, 1, .i2l, 1, 0, 0, 0, []),
  (false, 2, .lconst 0, 1, 0, 0, 0, []),
  (false, 3, .ldc2_w 89, 3, 1146, 0, 127, []),
  (false, 6, .invokestatic 91, 3, 50, 3, 1, [(1147, 0)]),
  (false, 9, .ifCond .ne 5, 3, 8, 0, 0, []),
  (false, 12, .iconst (-1), 1, 0, 0, (-1), []),
  (false, 13, .ireturn, 1, 0, 0, 0, []),
  (false, 14, .aload_n 0, 1, 0, 0, 0, []),
  (false, 15, .getfield 95, 3, 10, 2, 2, [(1005, 95)]),
  (false, 18, .sipush 320, 3, 0, 0, 320, []),
  (false, 21, .if_icmp .ne 6, 3, 14, 0, 0, []),
  (false, 24, .bipush (-3), 2, 0, 0, (-3), []),
  (false, 26, .ireturn, 1, 0, 0, 0, []),
  (false, 27, .aload_n 0, 1, 0, 0, 0, []),
  (false, 28, .getfield 13, 3, 10, 1, 1, [(1004, 13)]),
  (false, 31, .aload_n 0, 1, 0, 0, 0, []),
  (false, 32, .getfield 95, 3, 10, 2, 2, [(1005, 95)]),
  (false, 35, .iload_n 1, 1, 1, 0, 0, []),
  (false, 36, .iastore, 1, 0, 0, 0, []),
  (false, 37, .aload_n 0, 1, 0, 0, 0, []),
  (false, 38, .dup, 1, 0, 0, 0, []),
  (false, 39, .getfield 95, 3, 10, 2, 2, [(1005, 95)]),
  (false, 42, .iconst 1, 1, 0, 0, 1, []),
  (false, 43, .iadd, 1, 0, 0, 0, []),
  (false, 44, .putfield 95, 3, 10, 2, 2, [(1005, 95)]),
  (false, 47, .aload_n 0, 1, 0, 0, 0, []),
  (false, 48, .getfield 95, 3, 10, 2, 2, [(1005, 95)]),
  (false, 51, .ireturn, 1, 0, 0, 0, []),
  (false, 52, .nop, 0, 0, 0, 0, [])]
/-- M.end -/
def zt_52 : List (Bool × zE) := [
  (false, 0, .iload_n 1, 1, 1, 0, 0, []),
  (false, 1, .i2l, 1, 0, 0, 0, []),
  (false, 2, .lconst 0, 1, 0, 0, 0, []),
  (false, 3, .aload_n 0, 1, 0, 0, 0, []),
  (false, 4, .getfield 95, 3, 10, 2, 2, [(1005, 95)]),
  (false, 7, .i2l, 1, 0, 0, 0, []),
  (false, 8, .invokestatic 91, 3, 50, 3, 1, [(1147, 0)]),
  (false, 11, .ifCond .ne 5, 3, 10, 0, 0, []),
  (false, 14, .iconst (-1), 1, 0, 0, (-1), []),
  (false, 15, .ireturn, 1, 0, 0, 0, []),
  (false, 16, .aload_n 0, 1, 0, 0, 0, []),
  (false, 17, .getfield 95, 3, 10, 2, 2, [(1005, 95)]),
  (false, 20, .istore_n 2, 1, 2, 0, 0, []),
  (false, 21, .aload_n 0, 1, 0, 0, 0, []),
  (false, 22, .iload_n 1, 1, 1, 0, 0, []),
  (false, 23, .putfield 95, 3, 10, 2, 2, [(1005, 95)]),
  (false, 26, .iload_n 2, 1, 2, 0, 0, []),
  (false, 27, .ireturn, 1, 0, 0, 0, []),
  (false, 28, .nop, 0, 0, 0, 0, [])]
/-- M.byteAt -/
def zt_53 : List (Bool × zE) := [
  (false, 0, .iload_n 1, 1, 1, 0, 0, []),
  (false, 1, .aload_n 0, 1, 0, 0, 0, []),
  (false, 2, .getfield 95, 3, 10, 2, 2, [(1005, 95)]),
  (false, 5, .if_icmp .ge 12, 3, 9, 0, 0, []),
  (false, 8, .aload_n 0, 1, 0, 0, 0, []),
  (false, 9, .getfield 13, 3, 10, 1, 1, [(1004, 13)]),
  (false, 12, .iload_n 1, 1, 1, 0, 0, []),
  (false, 13, .iaload, 1, 0, 0, 0, []),
  (false, 14, .goto 5, 3, 10, 0, 0, []),
  (false, 17, .bipush (-4), 2, 0, 0, (-4), []),
  (false, 19, .ireturn, 1, 0, 0, 0, []),
  (false, 20, .nop, 0, 0, 0, 0, [])]
/-- M.fails -/
def zt_54 : List (Bool × zE) := [
  (false, 0, .aload_n 0, 1, 0, 0, 0, []),
  (false, 1, .getfield 99, 3, 10, 4, 4, [(1007, 99)]),
  (false, 4, .ifCond .ne 16, 3, 10, 0, 0, []),
  (false, 7, .aload_n 0, 1, 0, 0, 0, []),
  (false, 8, .iload_n 1, 1, 1, 0, 0, []),
  (false, 9, .putfield 99, 3, 10, 4, 4, [(1007, 99)]),
  (false, 12, .aload_n 0, 1, 0, 0, 0, []),
  (false, 13, .aload_n 0, 1, 0, 0, 0, []),
  (false, 14, .getfield 102, 3, 10, 7, 7, [(1010, 102)]),
  (false, 17, .putfield 105, 3, 10, 5, 5, [(1008, 105)]),
  (false, 20, .return_, 1, 0, 0, 0, []),
  (false, 21, .nop, 0, 0, 0, 0, [])]
/-- M.nameHere -/
def zt_55 : List (Bool × zE) := [
  (false, 0, .iconst 0, 1, 0, 0, 0, []),
  (false, 1, .istore_n 1, 1, 1, 0, 0, []),
  (true, 2, .iload_n 1, 1, 1, 0, 0, []),
  (false, 3, .bipush 10, 2, 0, 0, 10, []),
  (false, 5, .if_icmp .ge 113, 3, 69, 0, 0, []),
  (false, 8, .aload_n 0, 1, 0, 0, 0, []),
  (false, 9, .getfield 108, 3, 10, 8, 8, [(1011, 108)]),
  (false, 12, .iconst 1, 1, 0, 0, 1, []),
  (false, 13, .if_icmp .ne 105, 3, 69, 0, 0, []),
  (false, 16, .aload_n 0, 1, 0, 0, 0, []),
  (false, 17, .getfield 111, 3, 10, 6, 6, [(1009, 111)]),
  (false, 20, .aload_n 0, 1, 0, 0, 0, []),
  (false, 21, .getfield 102, 3, 10, 7, 7, [(1010, 102)]),
  (false, 24, .isub, 1, 0, 0, 0, []),
  (false, 25, .aload_n 0, 1, 0, 0, 0, []),
  (false, 26, .getfield 16, 3, 10, 10, 10, [(1013, 16)]),
  (false, 29, .iload_n 1, 1, 1, 0, 0, []),
  (false, 30, .iconst 1, 1, 0, 0, 1, []),
  (false, 31, .iadd, 1, 0, 0, 0, []),
  (false, 32, .iaload, 1, 0, 0, 0, []),
  (false, 33, .aload_n 0, 1, 0, 0, 0, []),
  (false, 34, .getfield 16, 3, 10, 10, 10, [(1013, 16)]),
  (false, 37, .iload_n 1, 1, 1, 0, 0, []),
  (false, 38, .iaload, 1, 0, 0, 0, []),
  (false, 39, .isub, 1, 0, 0, 0, []),
  (false, 40, .if_icmp .ne 7, 3, 28, 0, 0, []),
  (false, 43, .iconst 1, 1, 0, 0, 1, []),
  (false, 44, .goto 4, 3, 29, 0, 0, []),
  (false, 47, .iconst 0, 1, 0, 0, 0, []),
  (false, 48, .istore_n 2, 1, 2, 0, 0, []),
  (false, 49, .iconst 0, 1, 0, 0, 0, []),
  (false, 50, .istore_n 3, 1, 3, 0, 0, []),
  (true, 51, .iload_n 2, 1, 2, 0, 0, []),
  (false, 52, .ifCond .eq 54, 3, 63, 0, 0, []),
  (false, 55, .iload_n 3, 1, 3, 0, 0, []),
  (false, 56, .aload_n 0, 1, 0, 0, 0, []),
  (false, 57, .getfield 111, 3, 10, 6, 6, [(1009, 111)]),
  (false, 60, .aload_n 0, 1, 0, 0, 0, []),
  (false, 61, .getfield 102, 3, 10, 7, 7, [(1010, 102)]),
  (false, 64, .isub, 1, 0, 0, 0, []),
  (false, 65, .if_icmp .ge 41, 3, 63, 0, 0, []),
  (false, 68, .aload_n 0, 1, 0, 0, 0, []),
  (false, 69, .aload_n 0, 1, 0, 0, 0, []),
  (false, 70, .getfield 102, 3, 10, 7, 7, [(1010, 102)]),
  (false, 73, .iload_n 3, 1, 3, 0, 0, []),
  (false, 74, .iadd, 1, 0, 0, 0, []),
  (false, 75, .invokevirtual 114, 3, 53, 2, 1, [(1162, 0)]),
  (false, 78, .aload_n 0, 1, 0, 0, 0, []),
  (false, 79, .getfield 19, 3, 10, 11, 11, [(1014, 19)]),
  (false, 82, .aload_n 0, 1, 0, 0, 0, []),
  (false, 83, .getfield 16, 3, 10, 10, 10, [(1013, 16)]),
  (false, 86, .iload_n 1, 1, 1, 0, 0, []),
  (false, 87, .iaload, 1, 0, 0, 0, []),
  (false, 88, .iload_n 3, 1, 3, 0, 0, []),
  (false, 89, .iadd, 1, 0, 0, 0, []),
  (false, 90, .iaload, 1, 0, 0, 0, []),
  (false, 91, .if_icmp .ne 7, 3, 59, 0, 0, []),
  (false, 94, .iconst 1, 1, 0, 0, 1, []),
  (false, 95, .goto 4, 3, 60, 0, 0, []),
  (false, 98, .iconst 0, 1, 0, 0, 0, []),
  (false, 99, .istore_n 2, 1, 2, 0, 0, []),
  (false, 100, .iinc 3 1, 3, 3, 0, 1, []),
  (false, 103, .goto (-52), 3, 32, 0, 0, []),
  (false, 106, .iload_n 2, 1, 2, 0, 0, []),
  (false, 107, .ifCond .eq 5, 3, 67, 0, 0, []),
  (false, 110, .iload_n 1, 1, 1, 0, 0, []),
  (false, 111, .ireturn, 1, 0, 0, 0, []),
  (false, 112, .iinc 1 1, 3, 1, 0, 1, []),
  (false, 115, .goto (-113), 3, 2, 0, 0, []),
  (false, 118, .bipush (-4), 2, 0, 0, (-4), []),
  (false, 120, .ireturn, 1, 0, 0, 0, []),
  (false, 121, .nop, 0, 0, 0, 0, [])]
/-- M.readsOn -/
def zt_56 : List (Bool × zE) := [
  (false, 0, .aload_n 0, 1, 0, 0, 0, []),
  (false, 1, .getfield 99, 3, 10, 4, 4, [(1007, 99)]),
  (false, 4, .ifCond .le 4, 3, 4, 0, 0, []),
  (false, 7, .return_, 1, 0, 0, 0, []),
  (true, 8, .aload_n 0, 1, 0, 0, 0, []),
  (false, 9, .aload_n 0, 1, 0, 0, 0, []),
  (false, 10, .getfield 111, 3, 10, 6, 6, [(1009, 111)]),
  (false, 13, .invokevirtual 114, 3, 53, 2, 1, [(1162, 0)]),
  (false, 16, .bipush 32, 2, 0, 0, 32, []),
  (false, 18, .if_icmp .ne 16, 3, 17, 0, 0, []),
  (false, 21, .aload_n 0, 1, 0, 0, 0, []),
  (false, 22, .dup, 1, 0, 0, 0, []),
  (false, 23, .getfield 111, 3, 10, 6, 6, [(1009, 111)]),
  (false, 26, .iconst 1, 1, 0, 0, 1, []),
  (false, 27, .iadd, 1, 0, 0, 0, []),
  (false, 28, .putfield 111, 3, 10, 6, 6, [(1009, 111)]),
  (false, 31, .goto (-23), 3, 4, 0, 0, []),
  (false, 34, .aload_n 0, 1, 0, 0, 0, []),
  (false, 35, .aload_n 0, 1, 0, 0, 0, []),
  (false, 36, .getfield 111, 3, 10, 6, 6, [(1009, 111)]),
  (false, 39, .putfield 102, 3, 10, 7, 7, [(1010, 102)]),
  (false, 42, .aload_n 0, 1, 0, 0, 0, []),
  (false, 43, .aload_n 0, 1, 0, 0, 0, []),
  (false, 44, .getfield 111, 3, 10, 6, 6, [(1009, 111)]),
  (false, 47, .invokevirtual 114, 3, 53, 2, 1, [(1162, 0)]),
  (false, 50, .istore_n 1, 1, 1, 0, 0, []),
  (false, 51, .aload_n 0, 1, 0, 0, 0, []),
  (false, 52, .iconst 0, 1, 0, 0, 0, []),
  (false, 53, .putfield 118, 3, 10, 9, 9, [(1012, 118)]),
  (false, 56, .iload_n 1, 1, 1, 0, 0, []),
  (false, 57, .bipush (-4), 2, 0, 0, (-4), []),
  (false, 59, .if_icmp .ne 11, 3, 36, 0, 0, []),
  (false, 62, .aload_n 0, 1, 0, 0, 0, []),
  (false, 63, .iconst 0, 1, 0, 0, 0, []),
  (false, 64, .putfield 108, 3, 10, 8, 8, [(1011, 108)]),
  (false, 67, .goto 202, 3, 136, 0, 0, []),
  (false, 70, .iload_n 1, 1, 1, 0, 0, []),
  (false, 71, .i2l, 1, 0, 0, 0, []),
  (false, 72, .ldc2_w 121, 3, 1166, 0, 97, []),
  (false, 75, .ldc2_w 123, 3, 1167, 0, 122, []),
  (false, 78, .invokestatic 91, 3, 50, 3, 1, [(1147, 0)]),
  (false, 81, .ifCond .eq 45, 3, 62, 0, 0, []),
  (true, 84, .aload_n 0, 1, 0, 0, 0, []),
  (false, 85, .aload_n 0, 1, 0, 0, 0, []),
  (false, 86, .getfield 111, 3, 10, 6, 6, [(1009, 111)]),
  (false, 89, .invokevirtual 114, 3, 53, 2, 1, [(1162, 0)]),
  (false, 92, .i2l, 1, 0, 0, 0, []),
  (false, 93, .ldc2_w 121, 3, 1166, 0, 97, []),
  (false, 96, .ldc2_w 123, 3, 1167, 0, 122, []),
  (false, 99, .invokestatic 91, 3, 50, 3, 1, [(1147, 0)]),
  (false, 102, .ifCond .eq 16, 3, 58, 0, 0, []),
  (false, 105, .aload_n 0, 1, 0, 0, 0, []),
  (false, 106, .dup, 1, 0, 0, 0, []),
  (false, 107, .getfield 111, 3, 10, 6, 6, [(1009, 111)]),
  (false, 110, .iconst 1, 1, 0, 0, 1, []),
  (false, 111, .iadd, 1, 0, 0, 0, []),
  (false, 112, .putfield 111, 3, 10, 6, 6, [(1009, 111)]),
  (false, 115, .goto (-31), 3, 42, 0, 0, []),
  (false, 118, .aload_n 0, 1, 0, 0, 0, []),
  (false, 119, .iconst 1, 1, 0, 0, 1, []),
  (false, 120, .putfield 108, 3, 10, 8, 8, [(1011, 108)]),
  (false, 123, .goto 146, 3, 136, 0, 0, []),
  (false, 126, .iload_n 1, 1, 1, 0, 0, []),
  (false, 127, .i2l, 1, 0, 0, 0, []),
  (false, 128, .ldc2_w 125, 3, 1168, 0, 48, []),
  (false, 131, .ldc2_w 127, 3, 1169, 0, 57, []),
  (false, 134, .invokestatic 91, 3, 50, 3, 1, [(1147, 0)]),
  (false, 137, .ifCond .eq 106, 3, 121, 0, 0, []),
  (true, 140, .aload_n 0, 1, 0, 0, 0, []),
  (false, 141, .aload_n 0, 1, 0, 0, 0, []),
  (false, 142, .getfield 111, 3, 10, 6, 6, [(1009, 111)]),
  (false, 145, .invokevirtual 114, 3, 53, 2, 1, [(1162, 0)]),
  (false, 148, .i2l, 1, 0, 0, 0, []),
  (false, 149, .ldc2_w 125, 3, 1168, 0, 48, []),
  (false, 152, .ldc2_w 127, 3, 1169, 0, 57, []),
  (false, 155, .invokestatic 91, 3, 50, 3, 1, [(1147, 0)]),
  (false, 158, .ifCond .eq 59, 3, 107, 0, 0, []),
  (false, 161, .aload_n 0, 1, 0, 0, 0, []),
  (false, 162, .aload_n 0, 1, 0, 0, 0, []),
  (false, 163, .getfield 111, 3, 10, 6, 6, [(1009, 111)]),
  (false, 166, .aload_n 0, 1, 0, 0, 0, []),
  (false, 167, .getfield 102, 3, 10, 7, 7, [(1010, 102)]),
  (false, 170, .isub, 1, 0, 0, 0, []),
  (false, 171, .iconst 2, 1, 0, 0, 2, []),
  (false, 172, .if_icmp .ge 25, 3, 97, 0, 0, []),
  (false, 175, .bipush 10, 2, 0, 0, 10, []),
  (false, 177, .aload_n 0, 1, 0, 0, 0, []),
  (false, 178, .getfield 118, 3, 10, 9, 9, [(1012, 118)]),
  (false, 181, .imul, 1, 0, 0, 0, []),
  (false, 182, .aload_n 0, 1, 0, 0, 0, []),
  (false, 183, .aload_n 0, 1, 0, 0, 0, []),
  (false, 184, .getfield 111, 3, 10, 6, 6, [(1009, 111)]),
  (false, 187, .invokevirtual 114, 3, 53, 2, 1, [(1162, 0)]),
  (false, 190, .iadd, 1, 0, 0, 0, []),
  (false, 191, .bipush 48, 2, 0, 0, 48, []),
  (false, 193, .isub, 1, 0, 0, 0, []),
  (false, 194, .goto 7, 3, 99, 0, 0, []),
  (false, 197, .aload_n 0, 1, 0, 0, 0, []),
  (false, 198, .getfield 118, 3, 10, 9, 9, [(1012, 118)]),
  (false, 201, .putfield 118, 3, 10, 9, 9, [(1012, 118)]),
  (false, 204, .aload_n 0, 1, 0, 0, 0, []),
  (false, 205, .dup, 1, 0, 0, 0, []),
  (false, 206, .getfield 111, 3, 10, 6, 6, [(1009, 111)]),
  (false, 209, .iconst 1, 1, 0, 0, 1, []),
  (false, 210, .iadd, 1, 0, 0, 0, []),
  (false, 211, .putfield 111, 3, 10, 6, 6, [(1009, 111)]),
  (false, 214, .goto (-74), 3, 68, 0, 0, []),
  (false, 217, .aload_n 0, 1, 0, 0, 0, []),
  (false, 218, .iconst 2, 1, 0, 0, 2, []),
  (false, 219, .putfield 108, 3, 10, 8, 8, [(1011, 108)]),
  (false, 222, .aload_n 0, 1, 0, 0, 0, []),
  (false, 223, .getfield 111, 3, 10, 6, 6, [(1009, 111)]),
  (false, 226, .aload_n 0, 1, 0, 0, 0, []),
  (false, 227, .getfield 102, 3, 10, 7, 7, [(1010, 102)]),
  (false, 230, .isub, 1, 0, 0, 0, []),
  (false, 231, .iconst 2, 1, 0, 0, 2, []),
  (false, 232, .if_icmp .le 37, 3, 136, 0, 0, []),
  (false, 235, .aload_n 0, 1, 0, 0, 0, []),
  (false, 236, .iconst 1, 1, 0, 0, 1, []),
  (false, 237, .invokevirtual 129, 3, 54, 2, 0, [(1170, 0)]),
  (false, 240, .goto 29, 3, 136, 0, 0, []),
  (false, 243, .aload_n 0, 1, 0, 0, 0, []),
  (false, 244, .iconst 3, 1, 0, 0, 3, []),
  (false, 245, .putfield 108, 3, 10, 8, 8, [(1011, 108)]),
  (false, 248, .aload_n 0, 1, 0, 0, 0, []),
  (false, 249, .dup, 1, 0, 0, 0, []),
  (false, 250, .getfield 111, 3, 10, 6, 6, [(1009, 111)]),
  (false, 253, .iconst 1, 1, 0, 0, 1, []),
  (false, 254, .iadd, 1, 0, 0, 0, []),
  (false, 255, .putfield 111, 3, 10, 6, 6, [(1009, 111)]),
  (false, 258, .iload_n 1, 1, 1, 0, 0, []),
  (false, 259, .bipush 59, 2, 0, 0, 59, []),
  (false, 261, .if_icmp .eq 8, 3, 136, 0, 0, []),
  (false, 264, .aload_n 0, 1, 0, 0, 0, []),
  (false, 265, .iconst 1, 1, 0, 0, 1, []),
  (false, 266, .invokevirtual 129, 3, 54, 2, 0, [(1170, 0)]),
  (false, 269, .return_, 1, 0, 0, 0, []),
  (false, 270, .nop, 0, 0, 0, 0, [])]
/-- M.numberRead -/
def zt_57 : List (Bool × zE) := [
  (false, 0, .aload_n 0, 1, 0, 0, 0, []),
  (false, 1, .getfield 99, 3, 10, 4, 4, [(1007, 99)]),
  (false, 4, .ifCond .ne 16, 3, 10, 0, 0, []),
  (false, 7, .aload_n 0, 1, 0, 0, 0, []),
  (false, 8, .getfield 108, 3, 10, 8, 8, [(1011, 108)]),
  (false, 11, .iconst 2, 1, 0, 0, 2, []),
  (false, 12, .if_icmp .eq 8, 3, 10, 0, 0, []),
  (false, 15, .aload_n 0, 1, 0, 0, 0, []),
  (false, 16, .iconst 2, 1, 0, 0, 2, []),
  (false, 17, .invokevirtual 129, 3, 54, 2, 0, [(1170, 0)]),
  (false, 20, .aload_n 0, 1, 0, 0, 0, []),
  (false, 21, .getfield 99, 3, 10, 4, 4, [(1007, 99)]),
  (false, 24, .ifCond .ne 16, 3, 20, 0, 0, []),
  (false, 27, .aload_n 0, 1, 0, 0, 0, []),
  (false, 28, .getfield 118, 3, 10, 9, 9, [(1012, 118)]),
  (false, 31, .iload_n 1, 1, 1, 0, 0, []),
  (false, 32, .if_icmp .le 8, 3, 20, 0, 0, []),
  (false, 35, .aload_n 0, 1, 0, 0, 0, []),
  (false, 36, .iconst 3, 1, 0, 0, 3, []),
  (false, 37, .invokevirtual 129, 3, 54, 2, 0, [(1170, 0)]),
  (false, 40, .aload_n 0, 1, 0, 0, 0, []),
  (false, 41, .getfield 99, 3, 10, 4, 4, [(1007, 99)]),
  (false, 44, .ifCond .ne 10, 3, 26, 0, 0, []),
  (false, 47, .aload_n 0, 1, 0, 0, 0, []),
  (false, 48, .getfield 118, 3, 10, 9, 9, [(1012, 118)]),
  (false, 51, .goto 4, 3, 27, 0, 0, []),
  (false, 54, .iconst 0, 1, 0, 0, 0, []),
  (false, 55, .istore_n 2, 1, 2, 0, 0, []),
  (false, 56, .aload_n 0, 1, 0, 0, 0, []),
  (false, 57, .invokevirtual 133, 3, 56, 1, 0, [(1158, 0)]),
  (false, 60, .iload_n 2, 1, 2, 0, 0, []),
  (false, 61, .ireturn, 1, 0, 0, 0, []),
  (false, 62, .nop, 0, 0, 0, 0, [])]
/-- M.variableRead -/
def zt_58 : List (Bool × zE) := [
  (false, 0, .aload_n 0, 1, 0, 0, 0, []),
  (false, 1, .getfield 108, 3, 10, 8, 8, [(1011, 108)]),
  (false, 4, .iconst 1, 1, 0, 0, 1, []),
  (false, 5, .if_icmp .ne 41, 3, 22, 0, 0, []),
  (false, 8, .aload_n 0, 1, 0, 0, 0, []),
  (false, 9, .getfield 111, 3, 10, 6, 6, [(1009, 111)]),
  (false, 12, .aload_n 0, 1, 0, 0, 0, []),
  (false, 13, .getfield 102, 3, 10, 7, 7, [(1010, 102)]),
  (false, 16, .isub, 1, 0, 0, 0, []),
  (false, 17, .iconst 1, 1, 0, 0, 1, []),
  (false, 18, .if_icmp .ne 28, 3, 22, 0, 0, []),
  (false, 21, .aload_n 0, 1, 0, 0, 0, []),
  (false, 22, .aload_n 0, 1, 0, 0, 0, []),
  (false, 23, .getfield 102, 3, 10, 7, 7, [(1010, 102)]),
  (false, 26, .invokevirtual 114, 3, 53, 2, 1, [(1162, 0)]),
  (false, 29, .i2l, 1, 0, 0, 0, []),
  (false, 30, .ldc2_w 121, 3, 1166, 0, 97, []),
  (false, 33, .ldc2_w 136, 3, 1194, 0, 102, []),
  (false, 36, .invokestatic 91, 3, 50, 3, 1, [(1147, 0)]),
  (false, 39, .ifCond .eq 7, 3, 22, 0, 0, []),
  (false, 42, .iconst 1, 1, 0, 0, 1, []),
  (false, 43, .goto 4, 3, 23, 0, 0, []),
  (false, 46, .iconst 0, 1, 0, 0, 0, []),
  (false, 47, .istore_n 1, 1, 1, 0, 0, []),
  (false, 48, .aload_n 0, 1, 0, 0, 0, []),
  (false, 49, .getfield 99, 3, 10, 4, 4, [(1007, 99)]),
  (false, 52, .ifCond .ne 12, 3, 32, 0, 0, []),
  (false, 55, .iload_n 1, 1, 1, 0, 0, []),
  (false, 56, .ifCond .ne 8, 3, 32, 0, 0, []),
  (false, 59, .aload_n 0, 1, 0, 0, 0, []),
  (false, 60, .iconst 2, 1, 0, 0, 2, []),
  (false, 61, .invokevirtual 129, 3, 54, 2, 0, [(1170, 0)]),
  (false, 64, .aload_n 0, 1, 0, 0, 0, []),
  (false, 65, .getfield 99, 3, 10, 4, 4, [(1007, 99)]),
  (false, 68, .ifCond .ne 17, 3, 42, 0, 0, []),
  (false, 71, .aload_n 0, 1, 0, 0, 0, []),
  (false, 72, .aload_n 0, 1, 0, 0, 0, []),
  (false, 73, .getfield 102, 3, 10, 7, 7, [(1010, 102)]),
  (false, 76, .invokevirtual 114, 3, 53, 2, 1, [(1162, 0)]),
  (false, 79, .bipush 97, 2, 0, 0, 97, []),
  (false, 81, .isub, 1, 0, 0, 0, []),
  (false, 82, .goto 4, 3, 43, 0, 0, []),
  (false, 85, .iconst 0, 1, 0, 0, 0, []),
  (false, 86, .istore_n 2, 1, 2, 0, 0, []),
  (false, 87, .aload_n 0, 1, 0, 0, 0, []),
  (false, 88, .invokevirtual 133, 3, 56, 1, 0, [(1158, 0)]),
  (false, 91, .iload_n 2, 1, 2, 0, 0, []),
  (false, 92, .ireturn, 1, 0, 0, 0, []),
  (false, 93, .nop, 0, 0, 0, 0, [])]
/-- M.operandRead -/
def zt_59 : List (Bool × zE) := [
  (false, 0, .aload_n 0, 1, 0, 0, 0, []),
  (false, 1, .getfield 99, 3, 10, 4, 4, [(1007, 99)]),
  (false, 4, .ifCond .ne 20, 3, 11, 0, 0, []),
  (false, 7, .aload_n 0, 1, 0, 0, 0, []),
  (false, 8, .getfield 108, 3, 10, 8, 8, [(1011, 108)]),
  (false, 11, .iconst 2, 1, 0, 0, 2, []),
  (false, 12, .if_icmp .ne 12, 3, 11, 0, 0, []),
  (false, 15, .aload_n 0, 1, 0, 0, 0, []),
  (false, 16, .bipush 99, 2, 0, 0, 99, []),
  (false, 18, .invokevirtual 138, 3, 57, 2, 1, [(1199, 0)]),
  (false, 21, .goto 10, 3, 15, 0, 0, []),
  (false, 24, .bipush 100, 2, 0, 0, 100, []),
  (false, 26, .aload_n 0, 1, 0, 0, 0, []),
  (false, 27, .invokevirtual 141, 3, 58, 1, 1, [(1190, 0)]),
  (false, 30, .iadd, 1, 0, 0, 0, []),
  (false, 31, .ireturn, 1, 0, 0, 0, []),
  (false, 32, .nop, 0, 0, 0, 0, [])]
/-- M.endsLine -/
def zt_60 : List (Bool × zE) := [
  (false, 0, .aload_n 0, 1, 0, 0, 0, []),
  (false, 1, .getfield 99, 3, 10, 4, 4, [(1007, 99)]),
  (false, 4, .ifCond .ne 16, 3, 10, 0, 0, []),
  (false, 7, .aload_n 0, 1, 0, 0, 0, []),
  (false, 8, .getfield 108, 3, 10, 8, 8, [(1011, 108)]),
  (false, 11, .iconst 3, 1, 0, 0, 3, []),
  (false, 12, .if_icmp .eq 8, 3, 10, 0, 0, []),
  (false, 15, .aload_n 0, 1, 0, 0, 0, []),
  (false, 16, .iconst 2, 1, 0, 0, 2, []),
  (false, 17, .invokevirtual 129, 3, 54, 2, 0, [(1170, 0)]),
  (false, 20, .aload_n 0, 1, 0, 0, 0, []),
  (false, 21, .invokevirtual 133, 3, 56, 1, 0, [(1158, 0)]),
  (false, 24, .return_, 1, 0, 0, 0, []),
  (false, 25, .nop, 0, 0, 0, 0, [])]
/-- M.readStep -/
def zt_61 : List (Bool × zE) := [
  (false, 0, .aload_n 0, 1, 0, 0, 0, []),
  (false, 1, .getfield 7, 3, 10, 0, 0, [(1003, 7)]),
  (false, 4, .sipush 707, 3, 0, 0, 707, []),
  (false, 7, .iaload, 1, 0, 0, 0, []),
  (false, 8, .istore_n 3, 1, 3, 0, 0, []),
  (false, 9, .iload_n 3, 1, 3, 0, 0, []),
  (false, 10, .bipush 24, 2, 0, 0, 24, []),
  (false, 12, .if_icmp .ne 9, 3, 12, 0, 0, []),
  (false, 15, .aload_n 0, 1, 0, 0, 0, []),
  (false, 16, .iconst 5, 1, 0, 0, 5, []),
  (false, 17, .invokevirtual 129, 3, 54, 2, 0, [(1170, 0)]),
  (false, 20, .return_, 1, 0, 0, 0, []),
  (false, 21, .aload_n 0, 1, 0, 0, 0, []),
  (false, 22, .invokevirtual 133, 3, 56, 1, 0, [(1158, 0)]),
  (false, 25, .aload_n 0, 1, 0, 0, 0, []),
  (false, 26, .getfield 7, 3, 10, 0, 0, [(1003, 7)]),
  (false, 29, .sipush 531, 3, 0, 0, 531, []),
  (false, 32, .iload_n 3, 1, 3, 0, 0, []),
  (false, 33, .iadd, 1, 0, 0, 0, []),
  (false, 34, .iload_n 1, 1, 1, 0, 0, []),
  (false, 35, .iastore, 1, 0, 0, 0, []),
  (false, 36, .aload_n 0, 1, 0, 0, 0, []),
  (false, 37, .getfield 7, 3, 10, 0, 0, [(1003, 7)]),
  (false, 40, .sipush 555, 3, 0, 0, 555, []),
  (false, 43, .iload_n 3, 1, 3, 0, 0, []),
  (false, 44, .iadd, 1, 0, 0, 0, []),
  (false, 45, .iload_n 1, 1, 1, 0, 0, []),
  (false, 46, .ifCond .ne 10, 3, 31, 0, 0, []),
  (false, 49, .aload_n 0, 1, 0, 0, 0, []),
  (false, 50, .invokevirtual 141, 3, 58, 1, 1, [(1190, 0)]),
  (false, 53, .goto 5, 3, 32, 0, 0, []),
  (false, 56, .bipush (-4), 2, 0, 0, (-4), []),
  (false, 58, .iastore, 1, 0, 0, 0, []),
  (false, 59, .aload_n 0, 1, 0, 0, 0, []),
  (false, 60, .getfield 7, 3, 10, 0, 0, [(1003, 7)]),
  (false, 63, .sipush 579, 3, 0, 0, 579, []),
  (false, 66, .iload_n 3, 1, 3, 0, 0, []),
  (false, 67, .iadd, 1, 0, 0, 0, []),
  (false, 68, .aload_n 0, 1, 0, 0, 0, []),
  (false, 69, .invokevirtual 145, 3, 59, 1, 1, [(1195, 0)]),
  (false, 72, .iastore, 1, 0, 0, 0, []),
  (false, 73, .aload_n 0, 1, 0, 0, 0, []),
  (false, 74, .getfield 7, 3, 10, 0, 0, [(1003, 7)]),
  (false, 77, .sipush 603, 3, 0, 0, 603, []),
  (false, 80, .iload_n 3, 1, 3, 0, 0, []),
  (false, 81, .iadd, 1, 0, 0, 0, []),
  (false, 82, .iload_n 1, 1, 1, 0, 0, []),
  (false, 83, .ifCond .ne 7, 3, 50, 0, 0, []),
  (false, 86, .iconst 0, 1, 0, 0, 0, []),
  (false, 87, .goto 5, 3, 51, 0, 0, []),
  (false, 90, .bipush (-4), 2, 0, 0, (-4), []),
  (false, 92, .iastore, 1, 0, 0, 0, []),
  (false, 93, .aload_n 0, 1, 0, 0, 0, []),
  (false, 94, .getfield 7, 3, 10, 0, 0, [(1003, 7)]),
  (false, 97, .sipush 627, 3, 0, 0, 627, []),
  (false, 100, .iload_n 3, 1, 3, 0, 0, []),
  (false, 101, .iadd, 1, 0, 0, 0, []),
  (false, 102, .iload_n 1, 1, 1, 0, 0, []),
  (false, 103, .ifCond .ne 7, 3, 61, 0, 0, []),
  (false, 106, .iconst 0, 1, 0, 0, 0, []),
  (false, 107, .goto 5, 3, 62, 0, 0, []),
  (false, 110, .bipush (-4), 2, 0, 0, (-4), []),
  (false, 112, .iastore, 1, 0, 0, 0, []),
  (false, 113, .aload_n 0, 1, 0, 0, 0, []),
  (false, 114, .invokevirtual 148, 3, 55, 1, 1, [(1178, 0)]),
  (false, 117, .istore 4, 2, 4, 0, 0, []),
  (false, 119, .aload_n 0, 1, 0, 0, 0, []),
  (false, 120, .getfield 99, 3, 10, 4, 4, [(1007, 99)]),
  (false, 123, .ifCond .ne 55, 3, 96, 0, 0, []),
  (false, 126, .iload_n 1, 1, 1, 0, 0, []),
  (false, 127, .ifCond .ne 51, 3, 96, 0, 0, []),
  (false, 130, .iload 4, 2, 4, 0, 0, []),
  (false, 132, .i2l, 1, 0, 0, 0, []),
  (false, 133, .ldc2_w 151, 3, 1203, 0, 6, []),
  (false, 136, .ldc2_w 153, 3, 1204, 0, 9, []),
  (false, 139, .invokestatic 91, 3, 50, 3, 1, [(1147, 0)]),
  (false, 142, .ifCond .eq 36, 3, 96, 0, 0, []),
  (false, 145, .aload_n 0, 1, 0, 0, 0, []),
  (false, 146, .invokevirtual 133, 3, 56, 1, 0, [(1158, 0)]),
  (false, 149, .aload_n 0, 1, 0, 0, 0, []),
  (false, 150, .getfield 7, 3, 10, 0, 0, [(1003, 7)]),
  (false, 153, .sipush 603, 3, 0, 0, 603, []),
  (false, 156, .iload_n 3, 1, 3, 0, 0, []),
  (false, 157, .iadd, 1, 0, 0, 0, []),
  (false, 158, .iload 4, 2, 4, 0, 0, []),
  (false, 160, .bipush 6, 2, 0, 0, 6, []),
  (false, 162, .isub, 1, 0, 0, 0, []),
  (false, 163, .iastore, 1, 0, 0, 0, []),
  (false, 164, .aload_n 0, 1, 0, 0, 0, []),
  (false, 165, .getfield 7, 3, 10, 0, 0, [(1003, 7)]),
  (false, 168, .sipush 627, 3, 0, 0, 627, []),
  (false, 171, .iload_n 3, 1, 3, 0, 0, []),
  (false, 172, .iadd, 1, 0, 0, 0, []),
  (false, 173, .aload_n 0, 1, 0, 0, 0, []),
  (false, 174, .invokevirtual 145, 3, 59, 1, 1, [(1195, 0)]),
  (false, 177, .iastore, 1, 0, 0, 0, []),
  (false, 178, .aload_n 0, 1, 0, 0, 0, []),
  (false, 179, .getfield 7, 3, 10, 0, 0, [(1003, 7)]),
  (false, 182, .sipush 707, 3, 0, 0, 707, []),
  (false, 185, .dup2, 1, 0, 0, 0, []),
  (false, 186, .iaload, 1, 0, 0, 0, []),
  (false, 187, .iconst 1, 1, 0, 0, 1, []),
  (false, 188, .iadd, 1, 0, 0, 0, []),
  (false, 189, .iastore, 1, 0, 0, 0, []),
  (false, 190, .aload_n 0, 1, 0, 0, 0, []),
  (false, 191, .getfield 7, 3, 10, 0, 0, [(1003, 7)]),
  (false, 194, .sipush 659, 3, 0, 0, 659, []),
  (false, 197, .iload_n 2, 1, 2, 0, 0, []),
  (false, 198, .iadd, 1, 0, 0, 0, []),
  (false, 199, .dup2, 1, 0, 0, 0, []),
  (false, 200, .iaload, 1, 0, 0, 0, []),
  (false, 201, .iconst 1, 1, 0, 0, 1, []),
  (false, 202, .iadd, 1, 0, 0, 0, []),
  (false, 203, .iastore, 1, 0, 0, 0, []),
  (false, 204, .aload_n 0, 1, 0, 0, 0, []),
  (false, 205, .invokevirtual 155, 3, 60, 1, 0, [(1182, 0)]),
  (false, 208, .return_, 1, 0, 0, 0, []),
  (false, 209, .nop, 0, 0, 0, 0, [])]
/-- M.readEnd -/
def zt_62 : List (Bool × zE) := [
  (false, 0, .aload_n 0, 1, 0, 0, 0, []),
  (false, 1, .invokevirtual 133, 3, 56, 1, 0, [(1158, 0)]),
  (false, 4, .aload_n 0, 1, 0, 0, 0, []),
  (false, 5, .getfield 7, 3, 10, 0, 0, [(1003, 7)]),
  (false, 8, .sipush 667, 3, 0, 0, 667, []),
  (false, 11, .iload_n 2, 1, 2, 0, 0, []),
  (false, 12, .iadd, 1, 0, 0, 0, []),
  (false, 13, .iload_n 1, 1, 1, 0, 0, []),
  (false, 14, .iconst 2, 1, 0, 0, 2, []),
  (false, 15, .isub, 1, 0, 0, 0, []),
  (false, 16, .iastore, 1, 0, 0, 0, []),
  (false, 17, .aload_n 0, 1, 0, 0, 0, []),
  (false, 18, .getfield 7, 3, 10, 0, 0, [(1003, 7)]),
  (false, 21, .sipush 691, 3, 0, 0, 691, []),
  (false, 24, .iload_n 2, 1, 2, 0, 0, []),
  (false, 25, .iadd, 1, 0, 0, 0, []),
  (false, 26, .iload_n 1, 1, 1, 0, 0, []),
  (false, 27, .iconst 3, 1, 0, 0, 3, []),
  (false, 28, .if_icmp .ne 10, 3, 22, 0, 0, []),
  (false, 31, .aload_n 0, 1, 0, 0, 0, []),
  (false, 32, .invokevirtual 141, 3, 58, 1, 1, [(1190, 0)]),
  (false, 35, .goto 5, 3, 23, 0, 0, []),
  (false, 38, .bipush (-4), 2, 0, 0, (-4), []),
  (false, 40, .iastore, 1, 0, 0, 0, []),
  (false, 41, .aload_n 0, 1, 0, 0, 0, []),
  (false, 42, .getfield 7, 3, 10, 0, 0, [(1003, 7)]),
  (false, 45, .sipush 675, 3, 0, 0, 675, []),
  (false, 48, .iload_n 2, 1, 2, 0, 0, []),
  (false, 49, .iadd, 1, 0, 0, 0, []),
  (false, 50, .iload_n 1, 1, 1, 0, 0, []),
  (false, 51, .iconst 4, 1, 0, 0, 4, []),
  (false, 52, .if_icmp .ne 8, 3, 34, 0, 0, []),
  (false, 55, .bipush (-4), 2, 0, 0, (-4), []),
  (false, 57, .goto 9, 3, 37, 0, 0, []),
  (false, 60, .aload_n 0, 1, 0, 0, 0, []),
  (false, 61, .bipush 7, 2, 0, 0, 7, []),
  (false, 63, .invokevirtual 138, 3, 57, 2, 1, [(1199, 0)]),
  (false, 66, .iastore, 1, 0, 0, 0, []),
  (false, 67, .aload_n 0, 1, 0, 0, 0, []),
  (false, 68, .getfield 7, 3, 10, 0, 0, [(1003, 7)]),
  (false, 71, .sipush 683, 3, 0, 0, 683, []),
  (false, 74, .iload_n 2, 1, 2, 0, 0, []),
  (false, 75, .iadd, 1, 0, 0, 0, []),
  (false, 76, .iload_n 1, 1, 1, 0, 0, []),
  (false, 77, .iconst 3, 1, 0, 0, 3, []),
  (false, 78, .if_icmp .ne 12, 3, 50, 0, 0, []),
  (false, 81, .aload_n 0, 1, 0, 0, 0, []),
  (false, 82, .bipush 7, 2, 0, 0, 7, []),
  (false, 84, .invokevirtual 138, 3, 57, 2, 1, [(1199, 0)]),
  (false, 87, .goto 5, 3, 51, 0, 0, []),
  (false, 90, .bipush (-4), 2, 0, 0, (-4), []),
  (false, 92, .iastore, 1, 0, 0, 0, []),
  (false, 93, .aload_n 0, 1, 0, 0, 0, []),
  (false, 94, .invokevirtual 155, 3, 60, 1, 0, [(1182, 0)]),
  (false, 97, .return_, 1, 0, 0, 0, []),
  (false, 98, .nop, 0, 0, 0, 0, [])]
/-- M.readBlock -/
def zt_63 : List (Bool × zE) := [
  (false, 0, .aload_n 0, 1, 0, 0, 0, []),
  (false, 1, .invokevirtual 148, 3, 55, 1, 1, [(1178, 0)]),
  (false, 4, .iconst 5, 1, 0, 0, 5, []),
  (false, 5, .if_icmp .eq 9, 3, 8, 0, 0, []),
  (false, 8, .aload_n 0, 1, 0, 0, 0, []),
  (false, 9, .iconst 2, 1, 0, 0, 2, []),
  (false, 10, .invokevirtual 129, 3, 54, 2, 0, [(1170, 0)]),
  (false, 13, .return_, 1, 0, 0, 0, []),
  (false, 14, .aload_n 0, 1, 0, 0, 0, []),
  (false, 15, .getfield 7, 3, 10, 0, 0, [(1003, 7)]),
  (false, 18, .sipush 706, 3, 0, 0, 706, []),
  (false, 21, .iaload, 1, 0, 0, 0, []),
  (false, 22, .istore_n 1, 1, 1, 0, 0, []),
  (false, 23, .iload_n 1, 1, 1, 0, 0, []),
  (false, 24, .bipush 8, 2, 0, 0, 8, []),
  (false, 26, .if_icmp .ne 9, 3, 20, 0, 0, []),
  (false, 29, .aload_n 0, 1, 0, 0, 0, []),
  (false, 30, .iconst 5, 1, 0, 0, 5, []),
  (false, 31, .invokevirtual 129, 3, 54, 2, 0, [(1170, 0)]),
  (false, 34, .return_, 1, 0, 0, 0, []),
  (false, 35, .aload_n 0, 1, 0, 0, 0, []),
  (false, 36, .invokevirtual 133, 3, 56, 1, 0, [(1158, 0)]),
  (false, 39, .aload_n 0, 1, 0, 0, 0, []),
  (false, 40, .invokevirtual 155, 3, 60, 1, 0, [(1182, 0)]),
  (false, 43, .aload_n 0, 1, 0, 0, 0, []),
  (false, 44, .getfield 7, 3, 10, 0, 0, [(1003, 7)]),
  (false, 47, .sipush 651, 3, 0, 0, 651, []),
  (false, 50, .iload_n 1, 1, 1, 0, 0, []),
  (false, 51, .iadd, 1, 0, 0, 0, []),
  (false, 52, .aload_n 0, 1, 0, 0, 0, []),
  (false, 53, .getfield 7, 3, 10, 0, 0, [(1003, 7)]),
  (false, 56, .sipush 707, 3, 0, 0, 707, []),
  (false, 59, .iaload, 1, 0, 0, 0, []),
  (false, 60, .iastore, 1, 0, 0, 0, []),
  (false, 61, .aload_n 0, 1, 0, 0, 0, []),
  (false, 62, .getfield 7, 3, 10, 0, 0, [(1003, 7)]),
  (false, 65, .sipush 659, 3, 0, 0, 659, []),
  (false, 68, .iload_n 1, 1, 1, 0, 0, []),
  (false, 69, .iadd, 1, 0, 0, 0, []),
  (false, 70, .iconst 0, 1, 0, 0, 0, []),
  (false, 71, .iastore, 1, 0, 0, 0, []),
  (false, 72, .aload_n 0, 1, 0, 0, 0, []),
  (false, 73, .getfield 7, 3, 10, 0, 0, [(1003, 7)]),
  (false, 76, .sipush 706, 3, 0, 0, 706, []),
  (false, 79, .dup2, 1, 0, 0, 0, []),
  (false, 80, .iaload, 1, 0, 0, 0, []),
  (false, 81, .iconst 1, 1, 0, 0, 1, []),
  (false, 82, .iadd, 1, 0, 0, 0, []),
  (false, 83, .iastore, 1, 0, 0, 0, []),
  (false, 84, .aload_n 0, 1, 0, 0, 0, []),
  (false, 85, .invokevirtual 148, 3, 55, 1, 1, [(1178, 0)]),
  (false, 88, .istore_n 2, 1, 2, 0, 0, []),
  (true, 89, .aload_n 0, 1, 0, 0, 0, []),
  (false, 90, .getfield 99, 3, 10, 4, 4, [(1007, 99)]),
  (false, 93, .ifCond .ne 27, 3, 69, 0, 0, []),
  (false, 96, .iload_n 2, 1, 2, 0, 0, []),
  (false, 97, .i2l, 1, 0, 0, 0, []),
  (false, 98, .lconst 0, 1, 0, 0, 0, []),
  (false, 99, .lconst 1, 1, 0, 0, 1, []),
  (false, 100, .invokestatic 91, 3, 50, 3, 1, [(1147, 0)]),
  (false, 103, .ifCond .eq 17, 3, 69, 0, 0, []),
  (false, 106, .aload_n 0, 1, 0, 0, 0, []),
  (false, 107, .iload_n 2, 1, 2, 0, 0, []),
  (false, 108, .iload_n 1, 1, 1, 0, 0, []),
  (false, 109, .invokevirtual 158, 3, 61, 3, 0, [(1186, 0)]),
  (false, 112, .aload_n 0, 1, 0, 0, 0, []),
  (false, 113, .invokevirtual 148, 3, 55, 1, 1, [(1178, 0)]),
  (false, 116, .istore_n 2, 1, 2, 0, 0, []),
  (false, 117, .goto (-28), 3, 52, 0, 0, []),
  (false, 120, .aload_n 0, 1, 0, 0, 0, []),
  (false, 121, .getfield 99, 3, 10, 4, 4, [(1007, 99)]),
  (false, 124, .ifCond .ne 22, 3, 81, 0, 0, []),
  (false, 127, .iload_n 2, 1, 2, 0, 0, []),
  (false, 128, .i2l, 1, 0, 0, 0, []),
  (false, 129, .ldc2_w 162, 3, 1205, 0, 2, []),
  (false, 132, .ldc2_w 164, 3, 1206, 0, 4, []),
  (false, 135, .invokestatic 91, 3, 50, 3, 1, [(1147, 0)]),
  (false, 138, .ifCond .ne 8, 3, 81, 0, 0, []),
  (false, 141, .aload_n 0, 1, 0, 0, 0, []),
  (false, 142, .iconst 2, 1, 0, 0, 2, []),
  (false, 143, .invokevirtual 129, 3, 54, 2, 0, [(1170, 0)]),
  (false, 146, .aload_n 0, 1, 0, 0, 0, []),
  (false, 147, .getfield 99, 3, 10, 4, 4, [(1007, 99)]),
  (false, 150, .ifCond .ne 9, 3, 88, 0, 0, []),
  (false, 153, .aload_n 0, 1, 0, 0, 0, []),
  (false, 154, .iload_n 2, 1, 2, 0, 0, []),
  (false, 155, .iload_n 1, 1, 1, 0, 0, []),
  (false, 156, .invokevirtual 166, 3, 62, 3, 0, [(1207, 0)]),
  (false, 159, .return_, 1, 0, 0, 0, []),
  (false, 160, .nop, 0, 0, 0, 0, [])]
/-- M.isWhole -/
def zt_64 : List (Bool × zE) := [
  (false, 0, .iconst 1, 1, 0, 0, 1, []),
  (false, 1, .istore_n 1, 1, 1, 0, 0, []),
  (false, 2, .aload_n 0, 1, 0, 0, 0, []),
  (false, 3, .getfield 7, 3, 10, 0, 0, [(1003, 7)]),
  (false, 6, .sipush 706, 3, 0, 0, 706, []),
  (false, 9, .iaload, 1, 0, 0, 0, []),
  (false, 10, .istore_n 2, 1, 2, 0, 0, []),
  (false, 11, .iconst 0, 1, 0, 0, 0, []),
  (false, 12, .istore_n 3, 1, 3, 0, 0, []),
  (true, 13, .iload_n 3, 1, 3, 0, 0, []),
  (false, 14, .iload_n 2, 1, 2, 0, 0, []),
  (false, 15, .if_icmp .ge 47, 3, 36, 0, 0, []),
  (false, 18, .iload_n 1, 1, 1, 0, 0, []),
  (false, 19, .ifCond .eq 35, 3, 32, 0, 0, []),
  (false, 22, .aload_n 0, 1, 0, 0, 0, []),
  (false, 23, .getfield 7, 3, 10, 0, 0, [(1003, 7)]),
  (false, 26, .sipush 675, 3, 0, 0, 675, []),
  (false, 29, .iload_n 3, 1, 3, 0, 0, []),
  (false, 30, .iadd, 1, 0, 0, 0, []),
  (false, 31, .iaload, 1, 0, 0, 0, []),
  (false, 32, .iload_n 2, 1, 2, 0, 0, []),
  (false, 33, .if_icmp .ge 21, 3, 32, 0, 0, []),
  (false, 36, .aload_n 0, 1, 0, 0, 0, []),
  (false, 37, .getfield 7, 3, 10, 0, 0, [(1003, 7)]),
  (false, 40, .sipush 683, 3, 0, 0, 683, []),
  (false, 43, .iload_n 3, 1, 3, 0, 0, []),
  (false, 44, .iadd, 1, 0, 0, 0, []),
  (false, 45, .iaload, 1, 0, 0, 0, []),
  (false, 46, .iload_n 2, 1, 2, 0, 0, []),
  (false, 47, .if_icmp .ge 7, 3, 32, 0, 0, []),
  (false, 50, .iconst 1, 1, 0, 0, 1, []),
  (false, 51, .goto 4, 3, 33, 0, 0, []),
  (false, 54, .iconst 0, 1, 0, 0, 0, []),
  (false, 55, .istore_n 1, 1, 1, 0, 0, []),
  (false, 56, .iinc 3 1, 3, 3, 0, 1, []),
  (false, 59, .goto (-46), 3, 9, 0, 0, []),
  (false, 62, .iload_n 1, 1, 1, 0, 0, []),
  (false, 63, .freturn, 1, 0, 0, 0, []),
  (false, 64, .nop, 0, 0, 0, 0, [])]
/-- M.text -/
def zt_65 : List (Bool × zE) := [
  (false, 0, .aload_n 0, 1, 0, 0, 0, []),
  (false, 1, .iconst 0, 1, 0, 0, 0, []),
  (false, 2, .putfield 99, 3, 10, 4, 4, [(1007, 99)]),
  (false, 5, .aload_n 0, 1, 0, 0, 0, []),
  (false, 6, .iconst 0, 1, 0, 0, 0, []),
  (false, 7, .putfield 111, 3, 10, 6, 6, [(1009, 111)]),
  (false, 10, .iconst 0, 1, 0, 0, 0, []),
  (false, 11, .istore_n 1, 1, 1, 0, 0, []),
  (true, 12, .iload_n 1, 1, 1, 0, 0, []),
  (false, 13, .sipush 177, 3, 0, 0, 177, []),
  (false, 16, .if_icmp .ge 20, 3, 20, 0, 0, []),
  (false, 19, .aload_n 0, 1, 0, 0, 0, []),
  (false, 20, .getfield 7, 3, 10, 0, 0, [(1003, 7)]),
  (false, 23, .sipush 531, 3, 0, 0, 531, []),
  (false, 26, .iload_n 1, 1, 1, 0, 0, []),
  (false, 27, .iadd, 1, 0, 0, 0, []),
  (false, 28, .iconst 0, 1, 0, 0, 0, []),
  (false, 29, .iastore, 1, 0, 0, 0, []),
  (false, 30, .iinc 1 1, 3, 1, 0, 1, []),
  (false, 33, .goto (-21), 3, 8, 0, 0, []),
  (false, 36, .aload_n 0, 1, 0, 0, 0, []),
  (false, 37, .invokevirtual 133, 3, 56, 1, 0, [(1158, 0)]),
  (true, 40, .aload_n 0, 1, 0, 0, 0, []),
  (false, 41, .getfield 99, 3, 10, 4, 4, [(1007, 99)]),
  (false, 44, .ifCond .ne 17, 3, 31, 0, 0, []),
  (false, 47, .aload_n 0, 1, 0, 0, 0, []),
  (false, 48, .getfield 108, 3, 10, 8, 8, [(1011, 108)]),
  (false, 51, .ifCond .eq 10, 3, 31, 0, 0, []),
  (false, 54, .aload_n 0, 1, 0, 0, 0, []),
  (false, 55, .invokevirtual 169, 3, 63, 1, 0, [(1174, 0)]),
  (false, 58, .goto (-18), 3, 22, 0, 0, []),
  (false, 61, .aload_n 0, 1, 0, 0, 0, []),
  (false, 62, .getfield 99, 3, 10, 4, 4, [(1007, 99)]),
  (false, 65, .ifCond .ne 16, 3, 40, 0, 0, []),
  (false, 68, .aload_n 0, 1, 0, 0, 0, []),
  (false, 69, .invokevirtual 172, 3, 64, 1, 1, [(1211, 0)]),
  (false, 72, .ifCond .ne 9, 3, 40, 0, 0, []),
  (false, 75, .aload_n 0, 1, 0, 0, 0, []),
  (false, 76, .bipush 6, 2, 0, 0, 6, []),
  (false, 78, .invokevirtual 129, 3, 54, 2, 0, [(1170, 0)]),
  (false, 81, .aload_n 0, 1, 0, 0, 0, []),
  (false, 82, .iconst 0, 1, 0, 0, 0, []),
  (false, 83, .putfield 95, 3, 10, 2, 2, [(1005, 95)]),
  (false, 86, .aload_n 0, 1, 0, 0, 0, []),
  (false, 87, .aload_n 0, 1, 0, 0, 0, []),
  (false, 88, .getfield 99, 3, 10, 4, 4, [(1007, 99)]),
  (false, 91, .putfield 176, 3, 10, 3, 3, [(1006, 176)]),
  (false, 94, .aload_n 0, 1, 0, 0, 0, []),
  (false, 95, .getfield 99, 3, 10, 4, 4, [(1007, 99)]),
  (false, 98, .ifCond .le 11, 3, 55, 0, 0, []),
  (false, 101, .bipush (-10), 2, 0, 0, (-10), []),
  (false, 103, .aload_n 0, 1, 0, 0, 0, []),
  (false, 104, .getfield 105, 3, 10, 5, 5, [(1008, 105)]),
  (false, 107, .isub, 1, 0, 0, 0, []),
  (false, 108, .ireturn, 1, 0, 0, 0, []),
  (false, 109, .aload_n 0, 1, 0, 0, 0, []),
  (false, 110, .sipush 531, 3, 0, 0, 531, []),
  (false, 113, .iconst 0, 1, 0, 0, 0, []),
  (false, 114, .invokevirtual 179, 3, 67, 3, 0, [(1215, 0)]),
  (false, 117, .aload_n 0, 1, 0, 0, 0, []),
  (false, 118, .iconst 0, 1, 0, 0, 0, []),
  (false, 119, .putstatic 182, 3, 10, 14, 14, [(1017, 182)]),
  (false, 122, .aload_n 0, 1, 0, 0, 0, []),
  (false, 123, .iconst 0, 1, 0, 0, 0, []),
  (false, 124, .putstatic 186, 3, 10, 36, 36, [(1039, 186)]),
  (false, 127, .aload_n 0, 1, 0, 0, 0, []),
  (false, 128, .getfield 73, 3, 10, 40, 40, [(1043, 73)]),
  (false, 131, .iconst 0, 1, 0, 0, 0, []),
  (false, 132, .iconst 0, 1, 0, 0, 0, []),
  (false, 133, .sastore, 1, 0, 0, 0, []),
  (false, 134, .aload_n 0, 1, 0, 0, 0, []),
  (false, 135, .getfield 73, 3, 10, 40, 40, [(1043, 73)]),
  (false, 138, .iconst 1, 1, 0, 0, 1, []),
  (false, 139, .iconst 0, 1, 0, 0, 0, []),
  (false, 140, .sastore, 1, 0, 0, 0, []),
  (false, 141, .aload_n 0, 1, 0, 0, 0, []),
  (false, 142, .getfield 7, 3, 10, 0, 0, [(1003, 7)]),
  (false, 145, .sipush 175, 3, 0, 0, 175, []),
  (false, 148, .iaload, 1, 0, 0, 0, []),
  (false, 149, .ireturn, 1, 0, 0, 0, []),
  (false, 150, .nop, 0, 0, 0, 0, [])]
/-- M.fault -/
def zt_66 : List (Bool × zE) := [
  (false, 0, .aload_n 0, 1, 0, 0, 0, []),
  (false, 1, .getfield 176, 3, 10, 3, 3, [(1006, 176)]),
  (false, 4, .ireturn, 1, 0, 0, 0, []),
  (false, 5, .nop, 0, 0, 0, 0, [])]
/-- M.copies -/
def zt_67 : List (Bool × zE) := [
  (false, 0, .iconst 0, 1, 0, 0, 0, []),
  (false, 1, .istore_n 3, 1, 3, 0, 0, []),
  (true, 2, .iload_n 3, 1, 3, 0, 0, []),
  (false, 3, .sipush 177, 3, 0, 0, 177, []),
  (false, 6, .if_icmp .ge 25, 3, 19, 0, 0, []),
  (false, 9, .aload_n 0, 1, 0, 0, 0, []),
  (false, 10, .getfield 7, 3, 10, 0, 0, [(1003, 7)]),
  (false, 13, .iload_n 2, 1, 2, 0, 0, []),
  (false, 14, .iload_n 3, 1, 3, 0, 0, []),
  (false, 15, .iadd, 1, 0, 0, 0, []),
  (false, 16, .aload_n 0, 1, 0, 0, 0, []),
  (false, 17, .getfield 7, 3, 10, 0, 0, [(1003, 7)]),
  (false, 20, .iload_n 1, 1, 1, 0, 0, []),
  (false, 21, .iload_n 3, 1, 3, 0, 0, []),
  (false, 22, .iadd, 1, 0, 0, 0, []),
  (false, 23, .iaload, 1, 0, 0, 0, []),
  (false, 24, .iastore, 1, 0, 0, 0, []),
  (false, 25, .iinc 3 1, 3, 3, 0, 1, []),
  (false, 28, .goto (-26), 3, 2, 0, 0, []),
  (false, 31, .return_, 1, 0, 0, 0, []),
  (false, 32, .nop, 0, 0, 0, 0, [])]
/-- M.isUnknown -/
def zt_68 : List (Bool × zE) := [
  (false, 0, .iload_n 1, 1, 1, 0, 0, []),
  (false, 1, .bipush 100, 2, 0, 0, 100, []),
  (false, 3, .if_icmp .lt 22, 3, 15, 0, 0, []),
  (false, 6, .aload_n 0, 1, 0, 0, 0, []),
  (false, 7, .getfield 189, 3, 10, 12, 12, [(1015, 189)]),
  (false, 10, .iload_n 1, 1, 1, 0, 0, []),
  (false, 11, .bipush 100, 2, 0, 0, 100, []),
  (false, 13, .isub, 1, 0, 0, 0, []),
  (false, 14, .ishr, 1, 0, 0, 0, []),
  (false, 15, .iconst 1, 1, 0, 0, 1, []),
  (false, 16, .iand, 1, 0, 0, 0, []),
  (false, 17, .iconst 1, 1, 0, 0, 1, []),
  (false, 18, .if_icmp .ne 7, 3, 15, 0, 0, []),
  (false, 21, .iconst 1, 1, 0, 0, 1, []),
  (false, 22, .goto 4, 3, 16, 0, 0, []),
  (false, 25, .iconst 0, 1, 0, 0, 0, []),
  (false, 26, .freturn, 1, 0, 0, 0, []),
  (false, 27, .nop, 0, 0, 0, 0, [])]
/-- M.knows -/
def zt_69 : List (Bool × zE) := [
  (false, 0, .aload_n 0, 1, 0, 0, 0, []),
  (false, 1, .iconst 0, 1, 0, 0, 0, []),
  (false, 2, .putfield 189, 3, 10, 12, 12, [(1015, 189)]),
  (false, 5, .iconst 0, 1, 0, 0, 0, []),
  (false, 6, .istore_n 1, 1, 1, 0, 0, []),
  (true, 7, .iload_n 1, 1, 1, 0, 0, []),
  (false, 8, .bipush 6, 2, 0, 0, 6, []),
  (false, 10, .if_icmp .ge 38, 3, 27, 0, 0, []),
  (false, 13, .aload_n 0, 1, 0, 0, 0, []),
  (false, 14, .dup, 1, 0, 0, 0, []),
  (false, 15, .getfield 189, 3, 10, 12, 12, [(1015, 189)]),
  (false, 18, .aload_n 0, 1, 0, 0, 0, []),
  (false, 19, .getfield 7, 3, 10, 0, 0, [(1003, 7)]),
  (false, 22, .sipush 168, 3, 0, 0, 168, []),
  (false, 25, .iload_n 1, 1, 1, 0, 0, []),
  (false, 26, .iadd, 1, 0, 0, 0, []),
  (false, 27, .iaload, 1, 0, 0, 0, []),
  (false, 28, .ifCond .ne 9, 3, 22, 0, 0, []),
  (false, 31, .iconst 1, 1, 0, 0, 1, []),
  (false, 32, .iload_n 1, 1, 1, 0, 0, []),
  (false, 33, .ishl, 1, 0, 0, 0, []),
  (false, 34, .goto 4, 3, 23, 0, 0, []),
  (false, 37, .iconst 0, 1, 0, 0, 0, []),
  (false, 38, .ior, 1, 0, 0, 0, []),
  (false, 39, .putfield 189, 3, 10, 12, 12, [(1015, 189)]),
  (false, 42, .iinc 1 1, 3, 1, 0, 1, []),
  (false, 45, .goto (-38), 3, 5, 0, 0, []),
  (false, 48, .iconst 0, 1, 0, 0, 0, []),
  (false, 49, .istore_n 1, 1, 1, 0, 0, []),
  (true, 50, .iload_n 1, 1, 1, 0, 0, []),
  (false, 51, .bipush 6, 2, 0, 0, 6, []),
  (false, 53, .if_icmp .ge 104, 3, 88, 0, 0, []),
  (false, 56, .iconst 0, 1, 0, 0, 0, []),
  (false, 57, .istore_n 2, 1, 2, 0, 0, []),
  (true, 58, .iload_n 2, 1, 2, 0, 0, []),
  (false, 59, .aload_n 0, 1, 0, 0, 0, []),
  (false, 60, .getfield 7, 3, 10, 0, 0, [(1003, 7)]),
  (false, 63, .sipush 176, 3, 0, 0, 176, []),
  (false, 66, .iaload, 1, 0, 0, 0, []),
  (false, 67, .if_icmp .ge 84, 3, 86, 0, 0, []),
  (false, 70, .aload_n 0, 1, 0, 0, 0, []),
  (false, 71, .getfield 7, 3, 10, 0, 0, [(1003, 7)]),
  (false, 74, .iload_n 2, 1, 2, 0, 0, []),
  (false, 75, .iaload, 1, 0, 0, 0, []),
  (false, 76, .ifCond .ne 39, 3, 65, 0, 0, []),
  (false, 79, .aload_n 0, 1, 0, 0, 0, []),
  (false, 80, .aload_n 0, 1, 0, 0, 0, []),
  (false, 81, .getfield 7, 3, 10, 0, 0, [(1003, 7)]),
  (false, 84, .bipush 48, 2, 0, 0, 48, []),
  (false, 86, .iload_n 2, 1, 2, 0, 0, []),
  (false, 87, .iadd, 1, 0, 0, 0, []),
  (false, 88, .iaload, 1, 0, 0, 0, []),
  (false, 89, .invokevirtual 192, 3, 68, 2, 1, [(1235, 0)]),
  (false, 92, .ifCond .ne 19, 3, 63, 0, 0, []),
  (false, 95, .aload_n 0, 1, 0, 0, 0, []),
  (false, 96, .aload_n 0, 1, 0, 0, 0, []),
  (false, 97, .getfield 7, 3, 10, 0, 0, [(1003, 7)]),
  (false, 100, .bipush 96, 2, 0, 0, 96, []),
  (false, 102, .iload_n 2, 1, 2, 0, 0, []),
  (false, 103, .iadd, 1, 0, 0, 0, []),
  (false, 104, .iaload, 1, 0, 0, 0, []),
  (false, 105, .invokevirtual 192, 3, 68, 2, 1, [(1235, 0)]),
  (false, 108, .ifCond .eq 7, 3, 65, 0, 0, []),
  (false, 111, .iconst 1, 1, 0, 0, 1, []),
  (false, 112, .goto 4, 3, 66, 0, 0, []),
  (false, 115, .iconst 0, 1, 0, 0, 0, []),
  (false, 116, .istore_n 3, 1, 3, 0, 0, []),
  (false, 117, .aload_n 0, 1, 0, 0, 0, []),
  (false, 118, .dup, 1, 0, 0, 0, []),
  (false, 119, .getfield 189, 3, 10, 12, 12, [(1015, 189)]),
  (false, 122, .iload_n 3, 1, 3, 0, 0, []),
  (false, 123, .ifCond .eq 17, 3, 81, 0, 0, []),
  (false, 126, .iconst 1, 1, 0, 0, 1, []),
  (false, 127, .aload_n 0, 1, 0, 0, 0, []),
  (false, 128, .getfield 7, 3, 10, 0, 0, [(1003, 7)]),
  (false, 131, .bipush 24, 2, 0, 0, 24, []),
  (false, 133, .iload_n 2, 1, 2, 0, 0, []),
  (false, 134, .iadd, 1, 0, 0, 0, []),
  (false, 135, .iaload, 1, 0, 0, 0, []),
  (false, 136, .ishl, 1, 0, 0, 0, []),
  (false, 137, .goto 4, 3, 82, 0, 0, []),
  (false, 140, .iconst 0, 1, 0, 0, 0, []),
  (false, 141, .ior, 1, 0, 0, 0, []),
  (false, 142, .putfield 189, 3, 10, 12, 12, [(1015, 189)]),
  (false, 145, .iinc 2 1, 3, 2, 0, 1, []),
  (false, 148, .goto (-90), 3, 34, 0, 0, []),
  (false, 151, .iinc 1 1, 3, 1, 0, 1, []),
  (false, 154, .goto (-104), 3, 29, 0, 0, []),
  (false, 157, .return_, 1, 0, 0, 0, []),
  (false, 158, .nop, 0, 0, 0, 0, [])]
/-- M.bitOf -/
def zt_70 : List (Bool × zE) := [
  (false, 0, .iload_n 0, 1, 0, 0, 0, []),
  (false, 1, .bipush 100, 2, 0, 0, 100, []),
  (false, 3, .if_icmp .ge 7, 3, 5, 0, 0, []),
  (false, 6, .iconst 0, 1, 0, 0, 0, []),
  (false, 7, .goto 9, 3, 10, 0, 0, []),
  (false, 10, .iconst 1, 1, 0, 0, 1, []),
  (false, 11, .iload_n 0, 1, 0, 0, 0, []),
  (false, 12, .bipush 100, 2, 0, 0, 100, []),
  (false, 14, .isub, 1, 0, 0, 0, []),
  (false, 15, .ishl, 1, 0, 0, 0, []),
  (false, 16, .ireturn, 1, 0, 0, 0, []),
  (false, 17, .nop, 0, 0, 0, 0, [])]
/-- M.readIn -/
def zt_71 : List (Bool × zE) := [
  (false, 0, .aload_n 0, 1, 0, 0, 0, []),
  (false, 1, .getfield 7, 3, 10, 0, 0, [(1003, 7)]),
  (false, 4, .sipush 136, 3, 0, 0, 136, []),
  (false, 7, .iload_n 1, 1, 1, 0, 0, []),
  (false, 8, .iadd, 1, 0, 0, 0, []),
  (false, 9, .iaload, 1, 0, 0, 0, []),
  (false, 10, .istore_n 2, 1, 2, 0, 0, []),
  (false, 11, .iload_n 2, 1, 2, 0, 0, []),
  (false, 12, .iconst 2, 1, 0, 0, 2, []),
  (false, 13, .if_icmp .ne 7, 3, 12, 0, 0, []),
  (false, 16, .iconst 0, 1, 0, 0, 0, []),
  (false, 17, .goto 18, 3, 21, 0, 0, []),
  (false, 20, .aload_n 0, 1, 0, 0, 0, []),
  (false, 21, .getfield 22, 3, 10, 13, 13, [(1016, 22)]),
  (false, 24, .aload_n 0, 1, 0, 0, 0, []),
  (false, 25, .getfield 7, 3, 10, 0, 0, [(1003, 7)]),
  (false, 28, .sipush 144, 3, 0, 0, 144, []),
  (false, 31, .iload_n 1, 1, 1, 0, 0, []),
  (false, 32, .iadd, 1, 0, 0, 0, []),
  (false, 33, .iaload, 1, 0, 0, 0, []),
  (false, 34, .iaload, 1, 0, 0, 0, []),
  (false, 35, .istore_n 3, 1, 3, 0, 0, []),
  (false, 36, .iload_n 3, 1, 3, 0, 0, []),
  (false, 37, .iload_n 2, 1, 2, 0, 0, []),
  (false, 38, .iconst 1, 1, 0, 0, 1, []),
  (false, 39, .if_icmp .ne 34, 3, 45, 0, 0, []),
  (false, 42, .aload_n 0, 1, 0, 0, 0, []),
  (false, 43, .getfield 22, 3, 10, 13, 13, [(1016, 22)]),
  (false, 46, .aload_n 0, 1, 0, 0, 0, []),
  (false, 47, .getfield 7, 3, 10, 0, 0, [(1003, 7)]),
  (false, 50, .sipush 152, 3, 0, 0, 152, []),
  (false, 53, .iload_n 1, 1, 1, 0, 0, []),
  (false, 54, .iadd, 1, 0, 0, 0, []),
  (false, 55, .iaload, 1, 0, 0, 0, []),
  (false, 56, .iaload, 1, 0, 0, 0, []),
  (false, 57, .iconst 1, 1, 0, 0, 1, []),
  (false, 58, .aload_n 0, 1, 0, 0, 0, []),
  (false, 59, .getfield 7, 3, 10, 0, 0, [(1003, 7)]),
  (false, 62, .sipush 160, 3, 0, 0, 160, []),
  (false, 65, .iload_n 1, 1, 1, 0, 0, []),
  (false, 66, .iadd, 1, 0, 0, 0, []),
  (false, 67, .iaload, 1, 0, 0, 0, []),
  (false, 68, .ishl, 1, 0, 0, 0, []),
  (false, 69, .ior, 1, 0, 0, 0, []),
  (false, 70, .goto 4, 3, 46, 0, 0, []),
  (false, 73, .iconst 0, 1, 0, 0, 0, []),
  (false, 74, .ior, 1, 0, 0, 0, []),
  (false, 75, .istore_n 3, 1, 3, 0, 0, []),
  (false, 76, .aload_n 0, 1, 0, 0, 0, []),
  (false, 77, .getfield 7, 3, 10, 0, 0, [(1003, 7)]),
  (false, 80, .bipush 120, 2, 0, 0, 120, []),
  (false, 82, .iload_n 1, 1, 1, 0, 0, []),
  (false, 83, .iadd, 1, 0, 0, 0, []),
  (false, 84, .iaload, 1, 0, 0, 0, []),
  (false, 85, .istore 4, 2, 4, 0, 0, []),
  (false, 87, .iload 4, 2, 4, 0, 0, []),
  (false, 89, .aload_n 0, 1, 0, 0, 0, []),
  (false, 90, .getfield 7, 3, 10, 0, 0, [(1003, 7)]),
  (false, 93, .sipush 128, 3, 0, 0, 128, []),
  (false, 96, .iload_n 1, 1, 1, 0, 0, []),
  (false, 97, .iadd, 1, 0, 0, 0, []),
  (false, 98, .iaload, 1, 0, 0, 0, []),
  (false, 99, .iadd, 1, 0, 0, 0, []),
  (false, 100, .iconst 1, 1, 0, 0, 1, []),
  (false, 101, .isub, 1, 0, 0, 0, []),
  (false, 102, .istore 5, 2, 5, 0, 0, []),
  (true, 104, .iload 5, 2, 5, 0, 0, []),
  (false, 106, .iload 4, 2, 4, 0, 0, []),
  (false, 108, .if_icmp .lt 70, 3, 109, 0, 0, []),
  (false, 111, .iload_n 3, 1, 3, 0, 0, []),
  (false, 112, .aload_n 0, 1, 0, 0, 0, []),
  (false, 113, .getfield 7, 3, 10, 0, 0, [(1003, 7)]),
  (false, 116, .iload 5, 2, 5, 0, 0, []),
  (false, 118, .iaload, 1, 0, 0, 0, []),
  (false, 119, .ifCond .ne 20, 3, 86, 0, 0, []),
  (false, 122, .iconst 1, 1, 0, 0, 1, []),
  (false, 123, .aload_n 0, 1, 0, 0, 0, []),
  (false, 124, .getfield 7, 3, 10, 0, 0, [(1003, 7)]),
  (false, 127, .bipush 24, 2, 0, 0, 24, []),
  (false, 129, .iload 5, 2, 5, 0, 0, []),
  (false, 131, .iadd, 1, 0, 0, 0, []),
  (false, 132, .iaload, 1, 0, 0, 0, []),
  (false, 133, .ishl, 1, 0, 0, 0, []),
  (false, 134, .iconst (-1), 1, 0, 0, (-1), []),
  (false, 135, .ixor, 1, 0, 0, 0, []),
  (false, 136, .goto 4, 3, 87, 0, 0, []),
  (false, 139, .iload_n 3, 1, 3, 0, 0, []),
  (false, 140, .iand, 1, 0, 0, 0, []),
  (false, 141, .istore_n 3, 1, 3, 0, 0, []),
  (false, 142, .iload_n 3, 1, 3, 0, 0, []),
  (false, 143, .aload_n 0, 1, 0, 0, 0, []),
  (false, 144, .getfield 7, 3, 10, 0, 0, [(1003, 7)]),
  (false, 147, .bipush 48, 2, 0, 0, 48, []),
  (false, 149, .iload 5, 2, 5, 0, 0, []),
  (false, 151, .iadd, 1, 0, 0, 0, []),
  (false, 152, .iaload, 1, 0, 0, 0, []),
  (false, 153, .invokestatic 196, 3, 70, 1, 1, [(1247, 0)]),
  (false, 156, .aload_n 0, 1, 0, 0, 0, []),
  (false, 157, .getfield 7, 3, 10, 0, 0, [(1003, 7)]),
  (false, 160, .bipush 96, 2, 0, 0, 96, []),
  (false, 162, .iload 5, 2, 5, 0, 0, []),
  (false, 164, .iadd, 1, 0, 0, 0, []),
  (false, 165, .iaload, 1, 0, 0, 0, []),
  (false, 166, .invokestatic 196, 3, 70, 1, 1, [(1247, 0)]),
  (false, 169, .ior, 1, 0, 0, 0, []),
  (false, 170, .ior, 1, 0, 0, 0, []),
  (false, 171, .istore_n 3, 1, 3, 0, 0, []),
  (false, 172, .iinc 5 (-1), 3, 5, 0, (-1), []),
  (false, 175, .goto (-71), 3, 66, 0, 0, []),
  (false, 178, .iload_n 3, 1, 3, 0, 0, []),
  (false, 179, .ireturn, 1, 0, 0, 0, []),
  (false, 180, .nop, 0, 0, 0, 0, [])]
/-- M.reads -/
def zt_72 : List (Bool × zE) := [
  (false, 0, .iconst 0, 1, 0, 0, 0, []),
  (false, 1, .istore_n 1, 1, 1, 0, 0, []),
  (true, 2, .iload_n 1, 1, 1, 0, 0, []),
  (false, 3, .bipush 8, 2, 0, 0, 8, []),
  (false, 5, .if_icmp .ge 16, 3, 12, 0, 0, []),
  (false, 8, .aload_n 0, 1, 0, 0, 0, []),
  (false, 9, .getfield 22, 3, 10, 13, 13, [(1016, 22)]),
  (false, 12, .iload_n 1, 1, 1, 0, 0, []),
  (false, 13, .iconst 0, 1, 0, 0, 0, []),
  (false, 14, .iastore, 1, 0, 0, 0, []),
  (false, 15, .iinc 1 1, 3, 1, 0, 1, []),
  (false, 18, .goto (-16), 3, 2, 0, 0, []),
  (false, 21, .iconst 0, 1, 0, 0, 0, []),
  (false, 22, .istore_n 1, 1, 1, 0, 0, []),
  (true, 23, .iload_n 1, 1, 1, 0, 0, []),
  (false, 24, .bipush 60, 2, 0, 0, 60, []),
  (false, 26, .if_icmp .ge 41, 3, 37, 0, 0, []),
  (false, 29, .aload_n 0, 1, 0, 0, 0, []),
  (false, 30, .getfield 7, 3, 10, 0, 0, [(1003, 7)]),
  (false, 33, .sipush 175, 3, 0, 0, 175, []),
  (false, 36, .iaload, 1, 0, 0, 0, []),
  (false, 37, .iconst 1, 1, 0, 0, 1, []),
  (false, 38, .isub, 1, 0, 0, 0, []),
  (false, 39, .istore_n 2, 1, 2, 0, 0, []),
  (true, 40, .iload_n 2, 1, 2, 0, 0, []),
  (false, 41, .ifCond .lt 20, 3, 35, 0, 0, []),
  (false, 44, .aload_n 0, 1, 0, 0, 0, []),
  (false, 45, .getfield 22, 3, 10, 13, 13, [(1016, 22)]),
  (false, 48, .iload_n 2, 1, 2, 0, 0, []),
  (false, 49, .aload_n 0, 1, 0, 0, 0, []),
  (false, 50, .iload_n 2, 1, 2, 0, 0, []),
  (false, 51, .invokevirtual 199, 3, 71, 2, 1, [(1243, 0)]),
  (false, 54, .iastore, 1, 0, 0, 0, []),
  (false, 55, .iinc 2 (-1), 3, 2, 0, (-1), []),
  (false, 58, .goto (-18), 3, 24, 0, 0, []),
  (false, 61, .iinc 1 1, 3, 1, 0, 1, []),
  (false, 64, .goto (-41), 3, 14, 0, 0, []),
  (false, 67, .return_, 1, 0, 0, 0, []),
  (false, 68, .nop, 0, 0, 0, 0, [])]
/-- M.isPointOf -/
def zt_73 : List (Bool × zE) := [
  (false, 0, .aload_n 0, 1, 0, 0, 0, []),
  (false, 1, .getfield 25, 3, 10, 17, 17, [(1020, 25)]),
  (false, 4, .iload_n 1, 1, 1, 0, 0, []),
  (false, 5, .iaload, 1, 0, 0, 0, []),
  (false, 6, .iload_n 2, 1, 2, 0, 0, []),
  (false, 7, .if_icmp .ne 7, 3, 8, 0, 0, []),
  (false, 10, .iconst 1, 1, 0, 0, 1, []),
  (false, 11, .goto 4, 3, 9, 0, 0, []),
  (false, 14, .iconst 0, 1, 0, 0, 0, []),
  (false, 15, .istore_n 3, 1, 3, 0, 0, []),
  (false, 16, .iconst 0, 1, 0, 0, 0, []),
  (false, 17, .istore 4, 2, 4, 0, 0, []),
  (true, 19, .iload 4, 2, 4, 0, 0, []),
  (false, 21, .bipush 6, 2, 0, 0, 6, []),
  (false, 23, .if_icmp .ge 41, 3, 36, 0, 0, []),
  (false, 26, .iload_n 3, 1, 3, 0, 0, []),
  (false, 27, .ifCond .eq 29, 3, 32, 0, 0, []),
  (false, 30, .aload_n 0, 1, 0, 0, 0, []),
  (false, 31, .getfield 28, 3, 10, 18, 18, [(1021, 28)]),
  (false, 34, .bipush 6, 2, 0, 0, 6, []),
  (false, 36, .iload_n 1, 1, 1, 0, 0, []),
  (false, 37, .imul, 1, 0, 0, 0, []),
  (false, 38, .iload 4, 2, 4, 0, 0, []),
  (false, 40, .iadd, 1, 0, 0, 0, []),
  (false, 41, .iaload, 1, 0, 0, 0, []),
  (false, 42, .aload_n 0, 1, 0, 0, 0, []),
  (false, 43, .iload_n 2, 1, 2, 0, 0, []),
  (false, 44, .iload 4, 2, 4, 0, 0, []),
  (false, 46, .invokevirtual 202, 3, 74, 3, 1, [(1258, 0)]),
  (false, 49, .if_icmp .ne 7, 3, 32, 0, 0, []),
  (false, 52, .iconst 1, 1, 0, 0, 1, []),
  (false, 53, .goto 4, 3, 33, 0, 0, []),
  (false, 56, .iconst 0, 1, 0, 0, 0, []),
  (false, 57, .istore_n 3, 1, 3, 0, 0, []),
  (false, 58, .iinc 4 1, 3, 4, 0, 1, []),
  (false, 61, .goto (-42), 3, 12, 0, 0, []),
  (false, 64, .iload_n 3, 1, 3, 0, 0, []),
  (false, 65, .freturn, 1, 0, 0, 0, []),
  (false, 66, .nop, 0, 0, 0, 0, [])]
/-- M.toldAt -/
def zt_74 : List (Bool × zE) := [
  (false, 0, .aload_n 0, 1, 0, 0, 0, []),
  (false, 1, .getfield 189, 3, 10, 12, 12, [(1015, 189)]),
  (false, 4, .iload_n 2, 1, 2, 0, 0, []),
  (false, 5, .ishr, 1, 0, 0, 0, []),
  (false, 6, .iconst 1, 1, 0, 0, 1, []),
  (false, 7, .iand, 1, 0, 0, 0, []),
  (false, 8, .ifCond .ne 7, 3, 9, 0, 0, []),
  (false, 11, .iconst 1, 1, 0, 0, 1, []),
  (false, 12, .goto 4, 3, 10, 0, 0, []),
  (false, 15, .iconst 0, 1, 0, 0, 0, []),
  (false, 16, .istore_n 3, 1, 3, 0, 0, []),
  (false, 17, .iload_n 3, 1, 3, 0, 0, []),
  (false, 18, .ifCond .eq 33, 3, 31, 0, 0, []),
  (false, 21, .aload_n 0, 1, 0, 0, 0, []),
  (false, 22, .getfield 7, 3, 10, 0, 0, [(1003, 7)]),
  (false, 25, .sipush 174, 3, 0, 0, 174, []),
  (false, 28, .iaload, 1, 0, 0, 0, []),
  (false, 29, .iconst 1, 1, 0, 0, 1, []),
  (false, 30, .if_icmp .eq 17, 3, 29, 0, 0, []),
  (false, 33, .aload_n 0, 1, 0, 0, 0, []),
  (false, 34, .getfield 22, 3, 10, 13, 13, [(1016, 22)]),
  (false, 37, .iload_n 1, 1, 1, 0, 0, []),
  (false, 38, .iaload, 1, 0, 0, 0, []),
  (false, 39, .iload_n 2, 1, 2, 0, 0, []),
  (false, 40, .ishr, 1, 0, 0, 0, []),
  (false, 41, .iconst 1, 1, 0, 0, 1, []),
  (false, 42, .iand, 1, 0, 0, 0, []),
  (false, 43, .iconst 1, 1, 0, 0, 1, []),
  (false, 44, .if_icmp .ne 7, 3, 31, 0, 0, []),
  (false, 47, .iconst 1, 1, 0, 0, 1, []),
  (false, 48, .goto 4, 3, 32, 0, 0, []),
  (false, 51, .iconst 0, 1, 0, 0, 0, []),
  (false, 52, .istore 4, 2, 4, 0, 0, []),
  (false, 54, .iload 4, 2, 4, 0, 0, []),
  (false, 56, .ifCond .eq 12, 3, 40, 0, 0, []),
  (false, 59, .aload_n 0, 1, 0, 0, 0, []),
  (false, 60, .getfield 49, 3, 10, 25, 25, [(1028, 49)]),
  (false, 63, .iload_n 2, 1, 2, 0, 0, []),
  (false, 64, .iaload, 1, 0, 0, 0, []),
  (false, 65, .goto 4, 3, 41, 0, 0, []),
  (false, 68, .iconst 0, 1, 0, 0, 0, []),
  (false, 69, .ireturn, 1, 0, 0, 0, []),
  (false, 70, .nop, 0, 0, 0, 0, [])]
/-- M.pointOf -/
def zt_75 : List (Bool × zE) := [
  (false, 0, .iconst 0, 1, 0, 0, 0, []),
  (false, 1, .istore_n 2, 1, 2, 0, 0, []),
  (true, 2, .iload_n 2, 1, 2, 0, 0, []),
  (false, 3, .aload_n 0, 1, 0, 0, 0, []),
  (false, 4, .getfield 206, 3, 10, 15, 15, [(1018, 206)]),
  (false, 7, .if_icmp .ge 20, 3, 15, 0, 0, []),
  (false, 10, .aload_n 0, 1, 0, 0, 0, []),
  (false, 11, .iload_n 2, 1, 2, 0, 0, []),
  (false, 12, .iload_n 1, 1, 1, 0, 0, []),
  (false, 13, .invokevirtual 209, 3, 73, 3, 1, [(1254, 0)]),
  (false, 16, .ifCond .eq 5, 3, 13, 0, 0, []),
  (false, 19, .iload_n 2, 1, 2, 0, 0, []),
  (false, 20, .ireturn, 1, 0, 0, 0, []),
  (false, 21, .iinc 2 1, 3, 2, 0, 1, []),
  (false, 24, .goto (-22), 3, 2, 0, 0, []),
  (false, 27, .aload_n 0, 1, 0, 0, 0, []),
  (false, 28, .getfield 206, 3, 10, 15, 15, [(1018, 206)]),
  (false, 31, .bipush 40, 2, 0, 0, 40, []),
  (false, 33, .if_icmp .ne 10, 3, 24, 0, 0, []),
  (false, 36, .aload_n 0, 1, 0, 0, 0, []),
  (false, 37, .iconst 1, 1, 0, 0, 1, []),
  (false, 38, .putstatic 213, 3, 10, 16, 16, [(1019, 213)]),
  (false, 41, .iconst 0, 1, 0, 0, 0, []),
  (false, 42, .ireturn, 1, 0, 0, 0, []),
  (false, 43, .aload_n 0, 1, 0, 0, 0, []),
  (false, 44, .getfield 25, 3, 10, 17, 17, [(1020, 25)]),
  (false, 47, .aload_n 0, 1, 0, 0, 0, []),
  (false, 48, .getfield 206, 3, 10, 15, 15, [(1018, 206)]),
  (false, 51, .iload_n 1, 1, 1, 0, 0, []),
  (false, 52, .iastore, 1, 0, 0, 0, []),
  (false, 53, .iconst 0, 1, 0, 0, 0, []),
  (false, 54, .istore_n 2, 1, 2, 0, 0, []),
  (true, 55, .iload_n 2, 1, 2, 0, 0, []),
  (false, 56, .bipush 6, 2, 0, 0, 6, []),
  (false, 58, .if_icmp .ge 29, 3, 50, 0, 0, []),
  (false, 61, .aload_n 0, 1, 0, 0, 0, []),
  (false, 62, .getfield 28, 3, 10, 18, 18, [(1021, 28)]),
  (false, 65, .bipush 6, 2, 0, 0, 6, []),
  (false, 67, .aload_n 0, 1, 0, 0, 0, []),
  (false, 68, .getfield 206, 3, 10, 15, 15, [(1018, 206)]),
  (false, 71, .imul, 1, 0, 0, 0, []),
  (false, 72, .iload_n 2, 1, 2, 0, 0, []),
  (false, 73, .iadd, 1, 0, 0, 0, []),
  (false, 74, .aload_n 0, 1, 0, 0, 0, []),
  (false, 75, .iload_n 1, 1, 1, 0, 0, []),
  (false, 76, .iload_n 2, 1, 2, 0, 0, []),
  (false, 77, .invokevirtual 202, 3, 74, 3, 1, [(1258, 0)]),
  (false, 80, .iastore, 1, 0, 0, 0, []),
  (false, 81, .iinc 2 1, 3, 2, 0, 1, []),
  (false, 84, .goto (-29), 3, 32, 0, 0, []),
  (false, 87, .aload_n 0, 1, 0, 0, 0, []),
  (false, 88, .dup, 1, 0, 0, 0, []),
  (false, 89, .getfield 206, 3, 10, 15, 15, [(1018, 206)]),
  (false, 92, .iconst 1, 1, 0, 0, 1, []),
  (false, 93, .iadd, 1, 0, 0, 0, []),
  (false, 94, .putfield 206, 3, 10, 15, 15, [(1018, 206)]),
  (false, 97, .aload_n 0, 1, 0, 0, 0, []),
  (false, 98, .getfield 206, 3, 10, 15, 15, [(1018, 206)]),
  (false, 101, .iconst 1, 1, 0, 0, 1, []),
  (false, 102, .isub, 1, 0, 0, 0, []),
  (false, 103, .ireturn, 1, 0, 0, 0, []),
  (false, 104, .nop, 0, 0, 0, 0, [])]
/-- M.numberIn -/
def zt_76 : List (Bool × zE) := [
  (false, 0, .iload_n 1, 1, 1, 0, 0, []),
  (false, 1, .bipush 100, 2, 0, 0, 100, []),
  (false, 3, .if_icmp .ge 7, 3, 5, 0, 0, []),
  (false, 6, .iload_n 1, 1, 1, 0, 0, []),
  (false, 7, .goto 12, 3, 11, 0, 0, []),
  (false, 10, .aload_n 0, 1, 0, 0, 0, []),
  (false, 11, .getfield 49, 3, 10, 25, 25, [(1028, 49)]),
  (false, 14, .iload_n 1, 1, 1, 0, 0, []),
  (false, 15, .bipush 100, 2, 0, 0, 100, []),
  (false, 17, .isub, 1, 0, 0, 0, []),
  (false, 18, .iaload, 1, 0, 0, 0, []),
  (false, 19, .ireturn, 1, 0, 0, 0, []),
  (false, 20, .nop, 0, 0, 0, 0, [])]
/-- M.brings -/
def zt_77 : List (Bool × zE) := [
  (false, 0, .iload_n 0, 1, 0, 0, 0, []),
  (false, 1, .tableswitch 68 0 2 #[27, 44, 57], 27, 29, 0, 0, [(0, 2), (1, 13), (2, 22)]),
  (false, 28, .iload_n 1, 1, 1, 0, 0, []),
  (false, 29, .iload_n 2, 1, 2, 0, 0, []),
  (false, 30, .iadd, 1, 0, 0, 0, []),
  (false, 31, .bipush 99, 2, 0, 0, 99, []),
  (false, 33, .if_icmp .le 8, 3, 9, 0, 0, []),
  (false, 36, .bipush 99, 2, 0, 0, 99, []),
  (false, 38, .goto 6, 3, 12, 0, 0, []),
  (false, 41, .iload_n 1, 1, 1, 0, 0, []),
  (false, 42, .iload_n 2, 1, 2, 0, 0, []),
  (false, 43, .iadd, 1, 0, 0, 0, []),
  (false, 44, .ireturn, 1, 0, 0, 0, []),
  (false, 45, .iload_n 1, 1, 1, 0, 0, []),
  (false, 46, .iload_n 2, 1, 2, 0, 0, []),
  (false, 47, .if_icmp .ge 7, 3, 18, 0, 0, []),
  (false, 50, .iconst 0, 1, 0, 0, 0, []),
  (false, 51, .goto 6, 3, 21, 0, 0, []),
  (false, 54, .iload_n 1, 1, 1, 0, 0, []),
  (false, 55, .iload_n 2, 1, 2, 0, 0, []),
  (false, 56, .isub, 1, 0, 0, 0, []),
  (false, 57, .ireturn, 1, 0, 0, 0, []),
  (false, 58, .iload_n 1, 1, 1, 0, 0, []),
  (false, 59, .iload_n 2, 1, 2, 0, 0, []),
  (false, 60, .if_icmp .ne 7, 3, 27, 0, 0, []),
  (false, 63, .iconst 1, 1, 0, 0, 1, []),
  (false, 64, .goto 4, 3, 28, 0, 0, []),
  (false, 67, .iconst 0, 1, 0, 0, 0, []),
  (false, 68, .ireturn, 1, 0, 0, 0, []),
  (false, 69, .iload_n 1, 1, 1, 0, 0, []),
  (false, 70, .iload_n 2, 1, 2, 0, 0, []),
  (false, 71, .if_icmp .le 7, 3, 34, 0, 0, []),
  (false, 74, .iconst 1, 1, 0, 0, 1, []),
  (false, 75, .goto 4, 3, 35, 0, 0, []),
  (false, 78, .iconst 0, 1, 0, 0, 0, []),
  (false, 79, .ireturn, 1, 0, 0, 0, []),
  (false, 80, .nop, 0, 0, 0, 0, [])]
/-- M.leftOperand -/
def zt_78 : List (Bool × zE) := [
  (false, 0, .iload_n 1, 1, 1, 0, 0, []),
  (false, 1, .bipush 100, 2, 0, 0, 100, []),
  (false, 3, .if_icmp .lt 11, 3, 7, 0, 0, []),
  (false, 6, .aload_n 0, 1, 0, 0, 0, []),
  (false, 7, .iload_n 1, 1, 1, 0, 0, []),
  (false, 8, .invokevirtual 192, 3, 68, 2, 1, [(1235, 0)]),
  (false, 11, .ifCond .eq 7, 3, 9, 0, 0, []),
  (false, 14, .iload_n 1, 1, 1, 0, 0, []),
  (false, 15, .goto 12, 3, 15, 0, 0, []),
  (false, 18, .aload_n 0, 1, 0, 0, 0, []),
  (false, 19, .getfield 49, 3, 10, 25, 25, [(1028, 49)]),
  (false, 22, .iload_n 1, 1, 1, 0, 0, []),
  (false, 23, .bipush 100, 2, 0, 0, 100, []),
  (false, 25, .isub, 1, 0, 0, 0, []),
  (false, 26, .iaload, 1, 0, 0, 0, []),
  (false, 27, .ireturn, 1, 0, 0, 0, []),
  (false, 28, .nop, 0, 0, 0, 0, [])]
/-- M.leaves -/
def zt_79 : List (Bool × zE) := [
  (false, 0, .aload_n 0, 1, 0, 0, 0, []),
  (false, 1, .getfield 7, 3, 10, 0, 0, [(1003, 7)]),
  (false, 4, .iload_n 2, 1, 2, 0, 0, []),
  (false, 5, .iaload, 1, 0, 0, 0, []),
  (false, 6, .ifCond .ne 75, 3, 50, 0, 0, []),
  (false, 9, .aload_n 0, 1, 0, 0, 0, []),
  (false, 10, .getfield 189, 3, 10, 12, 12, [(1015, 189)]),
  (false, 13, .aload_n 0, 1, 0, 0, 0, []),
  (false, 14, .getfield 7, 3, 10, 0, 0, [(1003, 7)]),
  (false, 17, .bipush 24, 2, 0, 0, 24, []),
  (false, 19, .iload_n 2, 1, 2, 0, 0, []),
  (false, 20, .iadd, 1, 0, 0, 0, []),
  (false, 21, .iaload, 1, 0, 0, 0, []),
  (false, 22, .ishr, 1, 0, 0, 0, []),
  (false, 23, .iconst 1, 1, 0, 0, 1, []),
  (false, 24, .iand, 1, 0, 0, 0, []),
  (false, 25, .ifCond .ne 56, 3, 50, 0, 0, []),
  (false, 28, .aload_n 0, 1, 0, 0, 0, []),
  (false, 29, .getfield 49, 3, 10, 25, 25, [(1028, 49)]),
  (false, 32, .aload_n 0, 1, 0, 0, 0, []),
  (false, 33, .getfield 7, 3, 10, 0, 0, [(1003, 7)]),
  (false, 36, .bipush 24, 2, 0, 0, 24, []),
  (false, 38, .iload_n 2, 1, 2, 0, 0, []),
  (false, 39, .iadd, 1, 0, 0, 0, []),
  (false, 40, .iaload, 1, 0, 0, 0, []),
  (false, 41, .aload_n 0, 1, 0, 0, 0, []),
  (false, 42, .getfield 7, 3, 10, 0, 0, [(1003, 7)]),
  (false, 45, .bipush 72, 2, 0, 0, 72, []),
  (false, 47, .iload_n 2, 1, 2, 0, 0, []),
  (false, 48, .iadd, 1, 0, 0, 0, []),
  (false, 49, .iaload, 1, 0, 0, 0, []),
  (false, 50, .aload_n 0, 1, 0, 0, 0, []),
  (false, 51, .aload_n 0, 1, 0, 0, 0, []),
  (false, 52, .getfield 7, 3, 10, 0, 0, [(1003, 7)]),
  (false, 55, .bipush 48, 2, 0, 0, 48, []),
  (false, 57, .iload_n 2, 1, 2, 0, 0, []),
  (false, 58, .iadd, 1, 0, 0, 0, []),
  (false, 59, .iaload, 1, 0, 0, 0, []),
  (false, 60, .invokevirtual 216, 3, 76, 2, 1, [(1270, 0)]),
  (false, 63, .aload_n 0, 1, 0, 0, 0, []),
  (false, 64, .aload_n 0, 1, 0, 0, 0, []),
  (false, 65, .getfield 7, 3, 10, 0, 0, [(1003, 7)]),
  (false, 68, .bipush 96, 2, 0, 0, 96, []),
  (false, 70, .iload_n 2, 1, 2, 0, 0, []),
  (false, 71, .iadd, 1, 0, 0, 0, []),
  (false, 72, .iaload, 1, 0, 0, 0, []),
  (false, 73, .invokevirtual 216, 3, 76, 2, 1, [(1270, 0)]),
  (false, 76, .invokestatic 219, 3, 77, 3, 1, [(1274, 0)]),
  (false, 79, .iastore, 1, 0, 0, 0, []),
  (false, 80, .return_, 1, 0, 0, 0, []),
  (false, 81, .bipush 120, 2, 0, 0, 120, []),
  (false, 83, .iload_n 1, 1, 1, 0, 0, []),
  (false, 84, .imul, 1, 0, 0, 0, []),
  (false, 85, .iconst 5, 1, 0, 0, 5, []),
  (false, 86, .aload_n 0, 1, 0, 0, 0, []),
  (false, 87, .getfield 43, 3, 10, 23, 23, [(1026, 43)]),
  (false, 90, .iload_n 1, 1, 1, 0, 0, []),
  (false, 91, .iaload, 1, 0, 0, 0, []),
  (false, 92, .imul, 1, 0, 0, 0, []),
  (false, 93, .iadd, 1, 0, 0, 0, []),
  (false, 94, .istore_n 3, 1, 3, 0, 0, []),
  (false, 95, .aload_n 0, 1, 0, 0, 0, []),
  (false, 96, .getfield 46, 3, 10, 24, 24, [(1027, 46)]),
  (false, 99, .iload_n 3, 1, 3, 0, 0, []),
  (false, 100, .aload_n 0, 1, 0, 0, 0, []),
  (false, 101, .getfield 7, 3, 10, 0, 0, [(1003, 7)]),
  (false, 104, .iload_n 2, 1, 2, 0, 0, []),
  (false, 105, .iaload, 1, 0, 0, 0, []),
  (false, 106, .iastore, 1, 0, 0, 0, []),
  (false, 107, .aload_n 0, 1, 0, 0, 0, []),
  (false, 108, .getfield 46, 3, 10, 24, 24, [(1027, 46)]),
  (false, 111, .iload_n 3, 1, 3, 0, 0, []),
  (false, 112, .iconst 1, 1, 0, 0, 1, []),
  (false, 113, .iadd, 1, 0, 0, 0, []),
  (false, 114, .aload_n 0, 1, 0, 0, 0, []),
  (false, 115, .getfield 7, 3, 10, 0, 0, [(1003, 7)]),
  (false, 118, .bipush 24, 2, 0, 0, 24, []),
  (false, 120, .iload_n 2, 1, 2, 0, 0, []),
  (false, 121, .iadd, 1, 0, 0, 0, []),
  (false, 122, .iaload, 1, 0, 0, 0, []),
  (false, 123, .iastore, 1, 0, 0, 0, []),
  (false, 124, .aload_n 0, 1, 0, 0, 0, []),
  (false, 125, .getfield 46, 3, 10, 24, 24, [(1027, 46)]),
  (false, 128, .iload_n 3, 1, 3, 0, 0, []),
  (false, 129, .iconst 2, 1, 0, 0, 2, []),
  (false, 130, .iadd, 1, 0, 0, 0, []),
  (false, 131, .aload_n 0, 1, 0, 0, 0, []),
  (false, 132, .aload_n 0, 1, 0, 0, 0, []),
  (false, 133, .getfield 7, 3, 10, 0, 0, [(1003, 7)]),
  (false, 136, .bipush 48, 2, 0, 0, 48, []),
  (false, 138, .iload_n 2, 1, 2, 0, 0, []),
  (false, 139, .iadd, 1, 0, 0, 0, []),
  (false, 140, .iaload, 1, 0, 0, 0, []),
  (false, 141, .invokevirtual 223, 3, 78, 2, 1, [(1277, 0)]),
  (false, 144, .iastore, 1, 0, 0, 0, []),
  (false, 145, .aload_n 0, 1, 0, 0, 0, []),
  (false, 146, .getfield 46, 3, 10, 24, 24, [(1027, 46)]),
  (false, 149, .iload_n 3, 1, 3, 0, 0, []),
  (false, 150, .iconst 3, 1, 0, 0, 3, []),
  (false, 151, .iadd, 1, 0, 0, 0, []),
  (false, 152, .aload_n 0, 1, 0, 0, 0, []),
  (false, 153, .getfield 7, 3, 10, 0, 0, [(1003, 7)]),
  (false, 156, .bipush 72, 2, 0, 0, 72, []),
  (false, 158, .iload_n 2, 1, 2, 0, 0, []),
  (false, 159, .iadd, 1, 0, 0, 0, []),
  (false, 160, .iaload, 1, 0, 0, 0, []),
  (false, 161, .iastore, 1, 0, 0, 0, []),
  (false, 162, .aload_n 0, 1, 0, 0, 0, []),
  (false, 163, .getfield 46, 3, 10, 24, 24, [(1027, 46)]),
  (false, 166, .iload_n 3, 1, 3, 0, 0, []),
  (false, 167, .iconst 4, 1, 0, 0, 4, []),
  (false, 168, .iadd, 1, 0, 0, 0, []),
  (false, 169, .aload_n 0, 1, 0, 0, 0, []),
  (false, 170, .aload_n 0, 1, 0, 0, 0, []),
  (false, 171, .getfield 7, 3, 10, 0, 0, [(1003, 7)]),
  (false, 174, .bipush 96, 2, 0, 0, 96, []),
  (false, 176, .iload_n 2, 1, 2, 0, 0, []),
  (false, 177, .iadd, 1, 0, 0, 0, []),
  (false, 178, .iaload, 1, 0, 0, 0, []),
  (false, 179, .invokevirtual 223, 3, 78, 2, 1, [(1277, 0)]),
  (false, 182, .iastore, 1, 0, 0, 0, []),
  (false, 183, .aload_n 0, 1, 0, 0, 0, []),
  (false, 184, .getfield 43, 3, 10, 23, 23, [(1026, 43)]),
  (false, 187, .iload_n 1, 1, 1, 0, 0, []),
  (false, 188, .dup2, 1, 0, 0, 0, []),
  (false, 189, .iaload, 1, 0, 0, 0, []),
  (false, 190, .iconst 1, 1, 0, 0, 1, []),
  (false, 191, .iadd, 1, 0, 0, 0, []),
  (false, 192, .iastore, 1, 0, 0, 0, []),
  (false, 193, .return_, 1, 0, 0, 0, []),
  (false, 194, .nop, 0, 0, 0, 0, [])]
/-- M.goesThrough -/
def zt_80 : List (Bool × zE) := [
  (false, 0, .aload_n 0, 1, 0, 0, 0, []),
  (false, 1, .getfield 25, 3, 10, 17, 17, [(1020, 25)]),
  (false, 4, .iload_n 1, 1, 1, 0, 0, []),
  (false, 5, .iaload, 1, 0, 0, 0, []),
  (false, 6, .istore_n 2, 1, 2, 0, 0, []),
  (false, 7, .iconst 0, 1, 0, 0, 0, []),
  (false, 8, .istore_n 3, 1, 3, 0, 0, []),
  (true, 9, .iload_n 3, 1, 3, 0, 0, []),
  (false, 10, .bipush 6, 2, 0, 0, 6, []),
  (false, 12, .if_icmp .ge 26, 3, 24, 0, 0, []),
  (false, 15, .aload_n 0, 1, 0, 0, 0, []),
  (false, 16, .getfield 49, 3, 10, 25, 25, [(1028, 49)]),
  (false, 19, .iload_n 3, 1, 3, 0, 0, []),
  (false, 20, .aload_n 0, 1, 0, 0, 0, []),
  (false, 21, .getfield 28, 3, 10, 18, 18, [(1021, 28)]),
  (false, 24, .bipush 6, 2, 0, 0, 6, []),
  (false, 26, .iload_n 1, 1, 1, 0, 0, []),
  (false, 27, .imul, 1, 0, 0, 0, []),
  (false, 28, .iload_n 3, 1, 3, 0, 0, []),
  (false, 29, .iadd, 1, 0, 0, 0, []),
  (false, 30, .iaload, 1, 0, 0, 0, []),
  (false, 31, .iastore, 1, 0, 0, 0, []),
  (false, 32, .iinc 3 1, 3, 3, 0, 1, []),
  (false, 35, .goto (-26), 3, 7, 0, 0, []),
  (false, 38, .aload_n 0, 1, 0, 0, 0, []),
  (false, 39, .getfield 43, 3, 10, 23, 23, [(1026, 43)]),
  (false, 42, .iload_n 1, 1, 1, 0, 0, []),
  (false, 43, .iconst 0, 1, 0, 0, 0, []),
  (false, 44, .iastore, 1, 0, 0, 0, []),
  (false, 45, .iconst 0, 1, 0, 0, 0, []),
  (false, 46, .istore_n 3, 1, 3, 0, 0, []),
  (true, 47, .iload_n 3, 1, 3, 0, 0, []),
  (false, 48, .aload_n 0, 1, 0, 0, 0, []),
  (false, 49, .getfield 7, 3, 10, 0, 0, [(1003, 7)]),
  (false, 52, .sipush 128, 3, 0, 0, 128, []),
  (false, 55, .iload_n 2, 1, 2, 0, 0, []),
  (false, 56, .iadd, 1, 0, 0, 0, []),
  (false, 57, .iaload, 1, 0, 0, 0, []),
  (false, 58, .if_icmp .ge 25, 3, 52, 0, 0, []),
  (false, 61, .aload_n 0, 1, 0, 0, 0, []),
  (false, 62, .iload_n 1, 1, 1, 0, 0, []),
  (false, 63, .aload_n 0, 1, 0, 0, 0, []),
  (false, 64, .getfield 7, 3, 10, 0, 0, [(1003, 7)]),
  (false, 67, .bipush 120, 2, 0, 0, 120, []),
  (false, 69, .iload_n 2, 1, 2, 0, 0, []),
  (false, 70, .iadd, 1, 0, 0, 0, []),
  (false, 71, .iaload, 1, 0, 0, 0, []),
  (false, 72, .iload_n 3, 1, 3, 0, 0, []),
  (false, 73, .iadd, 1, 0, 0, 0, []),
  (false, 74, .invokevirtual 226, 3, 79, 3, 0, [(1266, 0)]),
  (false, 77, .iinc 3 1, 3, 3, 0, 1, []),
  (false, 80, .goto (-33), 3, 31, 0, 0, []),
  (false, 83, .aload_n 0, 1, 0, 0, 0, []),
  (false, 84, .getfield 7, 3, 10, 0, 0, [(1003, 7)]),
  (false, 87, .sipush 136, 3, 0, 0, 136, []),
  (false, 90, .iload_n 2, 1, 2, 0, 0, []),
  (false, 91, .iadd, 1, 0, 0, 0, []),
  (false, 92, .iaload, 1, 0, 0, 0, []),
  (false, 93, .istore_n 3, 1, 3, 0, 0, []),
  (false, 94, .aload_n 0, 1, 0, 0, 0, []),
  (false, 95, .getfield 7, 3, 10, 0, 0, [(1003, 7)]),
  (false, 98, .sipush 160, 3, 0, 0, 160, []),
  (false, 101, .iload_n 2, 1, 2, 0, 0, []),
  (false, 102, .iadd, 1, 0, 0, 0, []),
  (false, 103, .iaload, 1, 0, 0, 0, []),
  (false, 104, .istore 4, 2, 4, 0, 0, []),
  (false, 106, .iload_n 3, 1, 3, 0, 0, []),
  (false, 107, .iconst 1, 1, 0, 0, 1, []),
  (false, 108, .if_icmp .ne 20, 3, 79, 0, 0, []),
  (false, 111, .aload_n 0, 1, 0, 0, 0, []),
  (false, 112, .getfield 189, 3, 10, 12, 12, [(1015, 189)]),
  (false, 115, .iload 4, 2, 4, 0, 0, []),
  (false, 117, .ishr, 1, 0, 0, 0, []),
  (false, 118, .iconst 1, 1, 0, 0, 1, []),
  (false, 119, .iand, 1, 0, 0, 0, []),
  (false, 120, .iconst 1, 1, 0, 0, 1, []),
  (false, 121, .if_icmp .ne 7, 3, 79, 0, 0, []),
  (false, 124, .iconst 1, 1, 0, 0, 1, []),
  (false, 125, .goto 4, 3, 80, 0, 0, []),
  (false, 128, .iconst 0, 1, 0, 0, 0, []),
  (false, 129, .istore 5, 2, 5, 0, 0, []),
  (false, 131, .iload_n 3, 1, 3, 0, 0, []),
  (false, 132, .ifCond .eq 23, 3, 93, 0, 0, []),
  (false, 135, .iload_n 3, 1, 3, 0, 0, []),
  (false, 136, .iconst 1, 1, 0, 0, 1, []),
  (false, 137, .if_icmp .ne 22, 3, 95, 0, 0, []),
  (false, 140, .iload 5, 2, 5, 0, 0, []),
  (false, 142, .ifCond .ne 13, 3, 93, 0, 0, []),
  (false, 145, .aload_n 0, 1, 0, 0, 0, []),
  (false, 146, .getfield 49, 3, 10, 25, 25, [(1028, 49)]),
  (false, 149, .iload 4, 2, 4, 0, 0, []),
  (false, 151, .iaload, 1, 0, 0, 0, []),
  (false, 152, .ifCond .eq 7, 3, 95, 0, 0, []),
  (false, 155, .iconst 1, 1, 0, 0, 1, []),
  (false, 156, .goto 4, 3, 96, 0, 0, []),
  (false, 159, .iconst 0, 1, 0, 0, 0, []),
  (false, 160, .istore 6, 2, 6, 0, 0, []),
  (false, 162, .aload_n 0, 1, 0, 0, 0, []),
  (false, 163, .getfield 31, 3, 10, 19, 19, [(1022, 31)]),
  (false, 166, .iload_n 1, 1, 1, 0, 0, []),
  (false, 167, .iload_n 3, 1, 3, 0, 0, []),
  (false, 168, .iconst 2, 1, 0, 0, 2, []),
  (false, 169, .if_icmp .ne 7, 3, 105, 0, 0, []),
  (false, 172, .iconst 2, 1, 0, 0, 2, []),
  (false, 173, .goto 13, 3, 110, 0, 0, []),
  (false, 176, .iload 5, 2, 5, 0, 0, []),
  (false, 178, .ifCond .eq 7, 3, 109, 0, 0, []),
  (false, 181, .iconst 1, 1, 0, 0, 1, []),
  (false, 182, .goto 4, 3, 110, 0, 0, []),
  (false, 185, .iconst 0, 1, 0, 0, 0, []),
  (false, 186, .iastore, 1, 0, 0, 0, []),
  (false, 187, .aload_n 0, 1, 0, 0, 0, []),
  (false, 188, .getfield 40, 3, 10, 22, 22, [(1025, 40)]),
  (false, 191, .iload_n 1, 1, 1, 0, 0, []),
  (false, 192, .iload 5, 2, 5, 0, 0, []),
  (false, 194, .ifCond .eq 8, 3, 118, 0, 0, []),
  (false, 197, .iload 4, 2, 4, 0, 0, []),
  (false, 199, .goto 5, 3, 119, 0, 0, []),
  (false, 202, .bipush (-4), 2, 0, 0, (-4), []),
  (false, 204, .iastore, 1, 0, 0, 0, []),
  (false, 205, .aload_n 0, 1, 0, 0, 0, []),
  (false, 206, .getfield 34, 3, 10, 20, 20, [(1023, 34)]),
  (false, 209, .iload_n 1, 1, 1, 0, 0, []),
  (false, 210, .iload_n 3, 1, 3, 0, 0, []),
  (false, 211, .iconst 2, 1, 0, 0, 2, []),
  (false, 212, .if_icmp .ne 8, 3, 128, 0, 0, []),
  (false, 215, .bipush (-4), 2, 0, 0, (-4), []),
  (false, 217, .goto 35, 3, 145, 0, 0, []),
  (false, 220, .aload_n 0, 1, 0, 0, 0, []),
  (false, 221, .iload 6, 2, 6, 0, 0, []),
  (false, 223, .ifCond .eq 16, 3, 138, 0, 0, []),
  (false, 226, .aload_n 0, 1, 0, 0, 0, []),
  (false, 227, .getfield 7, 3, 10, 0, 0, [(1003, 7)]),
  (false, 230, .sipush 144, 3, 0, 0, 144, []),
  (false, 233, .iload_n 2, 1, 2, 0, 0, []),
  (false, 234, .iadd, 1, 0, 0, 0, []),
  (false, 235, .iaload, 1, 0, 0, 0, []),
  (false, 236, .goto 13, 3, 144, 0, 0, []),
  (false, 239, .aload_n 0, 1, 0, 0, 0, []),
  (false, 240, .getfield 7, 3, 10, 0, 0, [(1003, 7)]),
  (false, 243, .sipush 152, 3, 0, 0, 152, []),
  (false, 246, .iload_n 2, 1, 2, 0, 0, []),
  (false, 247, .iadd, 1, 0, 0, 0, []),
  (false, 248, .iaload, 1, 0, 0, 0, []),
  (false, 249, .invokevirtual 229, 3, 75, 2, 1, [(1250, 0)]),
  (false, 252, .iastore, 1, 0, 0, 0, []),
  (false, 253, .aload_n 0, 1, 0, 0, 0, []),
  (false, 254, .getfield 37, 3, 10, 21, 21, [(1024, 37)]),
  (false, 257, .iload_n 1, 1, 1, 0, 0, []),
  (false, 258, .iload 5, 2, 5, 0, 0, []),
  (false, 260, .ifCond .eq 20, 3, 160, 0, 0, []),
  (false, 263, .aload_n 0, 1, 0, 0, 0, []),
  (false, 264, .aload_n 0, 1, 0, 0, 0, []),
  (false, 265, .getfield 7, 3, 10, 0, 0, [(1003, 7)]),
  (false, 268, .sipush 152, 3, 0, 0, 152, []),
  (false, 271, .iload_n 2, 1, 2, 0, 0, []),
  (false, 272, .iadd, 1, 0, 0, 0, []),
  (false, 273, .iaload, 1, 0, 0, 0, []),
  (false, 274, .invokevirtual 229, 3, 75, 2, 1, [(1250, 0)]),
  (false, 277, .goto 5, 3, 161, 0, 0, []),
  (false, 280, .bipush (-4), 2, 0, 0, (-4), []),
  (false, 282, .iastore, 1, 0, 0, 0, []),
  (false, 283, .return_, 1, 0, 0, 0, []),
  (false, 284, .nop, 0, 0, 0, 0, [])]
/-- M.makes -/
def zt_81 : List (Bool × zE) := [
  (false, 0, .aload_n 0, 1, 0, 0, 0, []),
  (false, 1, .getfield 182, 3, 10, 14, 14, [(1017, 182)]),
  (false, 4, .ifCond .eq 4, 3, 4, 0, 0, []),
  (false, 7, .return_, 1, 0, 0, 0, []),
  (false, 8, .aload_n 0, 1, 0, 0, 0, []),
  (false, 9, .invokevirtual 232, 3, 69, 1, 0, [(1231, 0)]),
  (false, 12, .aload_n 0, 1, 0, 0, 0, []),
  (false, 13, .invokevirtual 235, 3, 72, 1, 0, [(1239, 0)]),
  (false, 16, .aload_n 0, 1, 0, 0, 0, []),
  (false, 17, .iconst 0, 1, 0, 0, 0, []),
  (false, 18, .putfield 206, 3, 10, 15, 15, [(1018, 206)]),
  (false, 21, .aload_n 0, 1, 0, 0, 0, []),
  (false, 22, .iconst 0, 1, 0, 0, 0, []),
  (false, 23, .putstatic 213, 3, 10, 16, 16, [(1019, 213)]),
  (false, 26, .aload_n 0, 1, 0, 0, 0, []),
  (false, 27, .getfield 7, 3, 10, 0, 0, [(1003, 7)]),
  (false, 30, .sipush 175, 3, 0, 0, 175, []),
  (false, 33, .iaload, 1, 0, 0, 0, []),
  (false, 34, .ifCond .le 41, 3, 42, 0, 0, []),
  (false, 37, .iconst 0, 1, 0, 0, 0, []),
  (false, 38, .istore_n 1, 1, 1, 0, 0, []),
  (true, 39, .iload_n 1, 1, 1, 0, 0, []),
  (false, 40, .bipush 6, 2, 0, 0, 6, []),
  (false, 42, .if_icmp .ge 27, 3, 38, 0, 0, []),
  (false, 45, .aload_n 0, 1, 0, 0, 0, []),
  (false, 46, .getfield 49, 3, 10, 25, 25, [(1028, 49)]),
  (false, 49, .iload_n 1, 1, 1, 0, 0, []),
  (false, 50, .aload_n 0, 1, 0, 0, 0, []),
  (false, 51, .getfield 7, 3, 10, 0, 0, [(1003, 7)]),
  (false, 54, .sipush 168, 3, 0, 0, 168, []),
  (false, 57, .iload_n 1, 1, 1, 0, 0, []),
  (false, 58, .iadd, 1, 0, 0, 0, []),
  (false, 59, .iaload, 1, 0, 0, 0, []),
  (false, 60, .iconst 1, 1, 0, 0, 1, []),
  (false, 61, .isub, 1, 0, 0, 0, []),
  (false, 62, .iastore, 1, 0, 0, 0, []),
  (false, 63, .iinc 1 1, 3, 1, 0, 1, []),
  (false, 66, .goto (-27), 3, 21, 0, 0, []),
  (false, 69, .aload_n 0, 1, 0, 0, 0, []),
  (false, 70, .iconst 0, 1, 0, 0, 0, []),
  (false, 71, .invokevirtual 229, 3, 75, 2, 1, [(1250, 0)]),
  (false, 74, .pop, 1, 0, 0, 0, []),
  (false, 75, .iconst 0, 1, 0, 0, 0, []),
  (false, 76, .istore_n 1, 1, 1, 0, 0, []),
  (true, 77, .iload_n 1, 1, 1, 0, 0, []),
  (false, 78, .aload_n 0, 1, 0, 0, 0, []),
  (false, 79, .getfield 206, 3, 10, 15, 15, [(1018, 206)]),
  (false, 82, .if_icmp .ge 21, 3, 56, 0, 0, []),
  (false, 85, .aload_n 0, 1, 0, 0, 0, []),
  (false, 86, .getfield 213, 3, 10, 16, 16, [(1019, 213)]),
  (false, 89, .ifCond .ne 14, 3, 56, 0, 0, []),
  (false, 92, .aload_n 0, 1, 0, 0, 0, []),
  (false, 93, .iload_n 1, 1, 1, 0, 0, []),
  (false, 94, .invokevirtual 238, 3, 80, 2, 0, [(1262, 0)]),
  (false, 97, .iinc 1 1, 3, 1, 0, 1, []),
  (false, 100, .goto (-23), 3, 44, 0, 0, []),
  (false, 103, .aload_n 0, 1, 0, 0, 0, []),
  (false, 104, .aload_n 0, 1, 0, 0, 0, []),
  (false, 105, .getfield 213, 3, 10, 16, 16, [(1019, 213)]),
  (false, 108, .ifCond .eq 7, 3, 62, 0, 0, []),
  (false, 111, .iconst 0, 1, 0, 0, 0, []),
  (false, 112, .goto 7, 3, 64, 0, 0, []),
  (false, 115, .aload_n 0, 1, 0, 0, 0, []),
  (false, 116, .getfield 206, 3, 10, 15, 15, [(1018, 206)]),
  (false, 119, .putfield 206, 3, 10, 15, 15, [(1018, 206)]),
  (false, 122, .aload_n 0, 1, 0, 0, 0, []),
  (false, 123, .iconst 1, 1, 0, 0, 1, []),
  (false, 124, .putstatic 182, 3, 10, 14, 14, [(1017, 182)]),
  (false, 127, .return_, 1, 0, 0, 0, []),
  (false, 128, .nop, 0, 0, 0, 0, [])]
/-- M.isPoint -/
def zt_82 : List (Bool × zE) := [
  (false, 0, .aload_n 0, 1, 0, 0, 0, []),
  (false, 1, .invokevirtual 241, 3, 81, 1, 0, [(1227, 0)]),
  (false, 4, .iload_n 1, 1, 1, 0, 0, []),
  (false, 5, .i2l, 1, 0, 0, 0, []),
  (false, 6, .lconst 0, 1, 0, 0, 0, []),
  (false, 7, .aload_n 0, 1, 0, 0, 0, []),
  (false, 8, .getfield 206, 3, 10, 15, 15, [(1018, 206)]),
  (false, 11, .iconst 1, 1, 0, 0, 1, []),
  (false, 12, .isub, 1, 0, 0, 0, []),
  (false, 13, .i2l, 1, 0, 0, 0, []),
  (false, 14, .invokestatic 91, 3, 50, 3, 1, [(1147, 0)]),
  (false, 17, .freturn, 1, 0, 0, 0, []),
  (false, 18, .nop, 0, 0, 0, 0, [])]
/-- M.isBlock -/
def zt_83 : List (Bool × zE) := [
  (false, 0, .iload_n 1, 1, 1, 0, 0, []),
  (false, 1, .i2l, 1, 0, 0, 0, []),
  (false, 2, .lconst 0, 1, 0, 0, 0, []),
  (false, 3, .aload_n 0, 1, 0, 0, 0, []),
  (false, 4, .getfield 7, 3, 10, 0, 0, [(1003, 7)]),
  (false, 7, .sipush 175, 3, 0, 0, 175, []),
  (false, 10, .iaload, 1, 0, 0, 0, []),
  (false, 11, .iconst 1, 1, 0, 0, 1, []),
  (false, 12, .isub, 1, 0, 0, 0, []),
  (false, 13, .i2l, 1, 0, 0, 0, []),
  (false, 14, .invokestatic 91, 3, 50, 3, 1, [(1147, 0)]),
  (false, 17, .freturn, 1, 0, 0, 0, []),
  (false, 18, .nop, 0, 0, 0, 0, [])]
/-- M.isStep -/
def zt_84 : List (Bool × zE) := [
  (false, 0, .iload_n 1, 1, 1, 0, 0, []),
  (false, 1, .i2l, 1, 0, 0, 0, []),
  (false, 2, .lconst 0, 1, 0, 0, 0, []),
  (false, 3, .aload_n 0, 1, 0, 0, 0, []),
  (false, 4, .getfield 7, 3, 10, 0, 0, [(1003, 7)]),
  (false, 7, .sipush 176, 3, 0, 0, 176, []),
  (false, 10, .iaload, 1, 0, 0, 0, []),
  (false, 11, .iconst 1, 1, 0, 0, 1, []),
  (false, 12, .isub, 1, 0, 0, 0, []),
  (false, 13, .i2l, 1, 0, 0, 0, []),
  (false, 14, .invokestatic 91, 3, 50, 3, 1, [(1147, 0)]),
  (false, 17, .freturn, 1, 0, 0, 0, []),
  (false, 18, .nop, 0, 0, 0, 0, [])]
/-- M.isVariable -/
def zt_85 : List (Bool × zE) := [
  (false, 0, .iload_n 0, 1, 0, 0, 0, []),
  (false, 1, .i2l, 1, 0, 0, 0, []),
  (false, 2, .lconst 0, 1, 0, 0, 0, []),
  (false, 3, .ldc2_w 244, 3, 1340, 0, 5, []),
  (false, 6, .invokestatic 91, 3, 50, 3, 1, [(1147, 0)]),
  (false, 9, .freturn, 1, 0, 0, 0, []),
  (false, 10, .nop, 0, 0, 0, 0, [])]
/-- M.givenBits -/
def zt_86 : List (Bool × zE) := [
  (false, 0, .iconst 0, 1, 0, 0, 0, []),
  (false, 1, .istore_n 1, 1, 1, 0, 0, []),
  (false, 2, .iconst 0, 1, 0, 0, 0, []),
  (false, 3, .istore_n 2, 1, 2, 0, 0, []),
  (true, 4, .iload_n 2, 1, 2, 0, 0, []),
  (false, 5, .bipush 6, 2, 0, 0, 6, []),
  (false, 7, .if_icmp .ge 32, 3, 24, 0, 0, []),
  (false, 10, .iload_n 1, 1, 1, 0, 0, []),
  (false, 11, .aload_n 0, 1, 0, 0, 0, []),
  (false, 12, .getfield 7, 3, 10, 0, 0, [(1003, 7)]),
  (false, 15, .sipush 168, 3, 0, 0, 168, []),
  (false, 18, .iload_n 2, 1, 2, 0, 0, []),
  (false, 19, .iadd, 1, 0, 0, 0, []),
  (false, 20, .iaload, 1, 0, 0, 0, []),
  (false, 21, .ifCond .le 9, 3, 19, 0, 0, []),
  (false, 24, .iconst 1, 1, 0, 0, 1, []),
  (false, 25, .iload_n 2, 1, 2, 0, 0, []),
  (false, 26, .ishl, 1, 0, 0, 0, []),
  (false, 27, .goto 4, 3, 20, 0, 0, []),
  (false, 30, .iconst 0, 1, 0, 0, 0, []),
  (false, 31, .ior, 1, 0, 0, 0, []),
  (false, 32, .istore_n 1, 1, 1, 0, 0, []),
  (false, 33, .iinc 2 1, 3, 2, 0, 1, []),
  (false, 36, .goto (-32), 3, 4, 0, 0, []),
  (false, 39, .iload_n 1, 1, 1, 0, 0, []),
  (false, 40, .ireturn, 1, 0, 0, 0, []),
  (false, 41, .nop, 0, 0, 0, 0, [])]
/-- M.allOf -/
def zt_87 : List (Bool × zE) := [
  (false, 0, .iconst 0, 1, 0, 0, 0, []),
  (false, 1, .istore_n 2, 1, 2, 0, 0, []),
  (false, 2, .iconst 0, 1, 0, 0, 0, []),
  (false, 3, .istore_n 3, 1, 3, 0, 0, []),
  (true, 4, .iload_n 3, 1, 3, 0, 0, []),
  (false, 5, .aload_n 0, 1, 0, 0, 0, []),
  (false, 6, .getfield 206, 3, 10, 15, 15, [(1018, 206)]),
  (false, 9, .if_icmp .ge 30, 3, 23, 0, 0, []),
  (false, 12, .iload_n 2, 1, 2, 0, 0, []),
  (false, 13, .iload_n 1, 1, 1, 0, 0, []),
  (false, 14, .ifCond .eq 11, 3, 15, 0, 0, []),
  (false, 17, .aload_n 0, 1, 0, 0, 0, []),
  (false, 18, .iload_n 3, 1, 3, 0, 0, []),
  (false, 19, .invokevirtual 246, 3, 103, 2, 1, [(1289, 0)]),
  (false, 22, .goto 9, 3, 19, 0, 0, []),
  (false, 25, .aload_n 0, 1, 0, 0, 0, []),
  (false, 26, .getfield 43, 3, 10, 23, 23, [(1026, 43)]),
  (false, 29, .iload_n 3, 1, 3, 0, 0, []),
  (false, 30, .iaload, 1, 0, 0, 0, []),
  (false, 31, .iadd, 1, 0, 0, 0, []),
  (false, 32, .istore_n 2, 1, 2, 0, 0, []),
  (false, 33, .iinc 3 1, 3, 3, 0, 1, []),
  (false, 36, .goto (-32), 3, 4, 0, 0, []),
  (false, 39, .iload_n 2, 1, 2, 0, 0, []),
  (false, 40, .ireturn, 1, 0, 0, 0, []),
  (false, 41, .nop, 0, 0, 0, 0, [])]
/-- M.rule -/
def zt_88 : List (Bool × zE) := [
  (false, 0, .aload_n 0, 1, 0, 0, 0, []),
  (false, 1, .invokevirtual 241, 3, 81, 1, 0, [(1227, 0)]),
  (false, 4, .iload_n 1, 1, 1, 0, 0, []),
  (false, 5, .tableswitch 115 0 7 #[47, 56, 65, 70, 75, 86, 103, 109], 47, 43, 0, 0, [(0, 4), (1, 9), (2, 14), (3, 17), (4, 20), (5, 27), (6, 35), (7, 39)]),
  (false, 52, .aload_n 0, 1, 0, 0, 0, []),
  (false, 53, .getfield 7, 3, 10, 0, 0, [(1003, 7)]),
  (false, 56, .sipush 175, 3, 0, 0, 175, []),
  (false, 59, .iaload, 1, 0, 0, 0, []),
  (false, 60, .ireturn, 1, 0, 0, 0, []),
  (false, 61, .aload_n 0, 1, 0, 0, 0, []),
  (false, 62, .getfield 7, 3, 10, 0, 0, [(1003, 7)]),
  (false, 65, .sipush 176, 3, 0, 0, 176, []),
  (false, 68, .iaload, 1, 0, 0, 0, []),
  (false, 69, .ireturn, 1, 0, 0, 0, []),
  (false, 70, .aload_n 0, 1, 0, 0, 0, []),
  (false, 71, .getfield 189, 3, 10, 12, 12, [(1015, 189)]),
  (false, 74, .ireturn, 1, 0, 0, 0, []),
  (false, 75, .aload_n 0, 1, 0, 0, 0, []),
  (false, 76, .invokevirtual 249, 3, 86, 1, 1, [(1281, 0)]),
  (false, 79, .ireturn, 1, 0, 0, 0, []),
  (false, 80, .iconst 1, 1, 0, 0, 1, []),
  (false, 81, .aload_n 0, 1, 0, 0, 0, []),
  (false, 82, .getfield 7, 3, 10, 0, 0, [(1003, 7)]),
  (false, 85, .sipush 174, 3, 0, 0, 174, []),
  (false, 88, .iaload, 1, 0, 0, 0, []),
  (false, 89, .isub, 1, 0, 0, 0, []),
  (false, 90, .ireturn, 1, 0, 0, 0, []),
  (false, 91, .aload_n 0, 1, 0, 0, 0, []),
  (false, 92, .getfield 213, 3, 10, 16, 16, [(1019, 213)]),
  (false, 95, .ifCond .eq 8, 3, 32, 0, 0, []),
  (false, 98, .bipush (-3), 2, 0, 0, (-3), []),
  (false, 100, .goto 7, 3, 34, 0, 0, []),
  (false, 103, .aload_n 0, 1, 0, 0, 0, []),
  (false, 104, .getfield 206, 3, 10, 15, 15, [(1018, 206)]),
  (false, 107, .ireturn, 1, 0, 0, 0, []),
  (false, 108, .aload_n 0, 1, 0, 0, 0, []),
  (false, 109, .iconst 0, 1, 0, 0, 0, []),
  (false, 110, .invokevirtual 252, 3, 87, 2, 1, [(1285, 0)]),
  (false, 113, .ireturn, 1, 0, 0, 0, []),
  (false, 114, .aload_n 0, 1, 0, 0, 0, []),
  (false, 115, .iconst 1, 1, 0, 0, 1, []),
  (false, 116, .invokevirtual 252, 3, 87, 2, 1, [(1285, 0)]),
  (false, 119, .ireturn, 1, 0, 0, 0, []),
  (false, 120, .iconst (-1), 1, 0, 0, (-1), []),
  (false, 121, .ireturn, 1, 0, 0, 0, []),
  (false, 122, .nop, 0, 0, 0, 0, [])]
/-- M.block -/
def zt_89 : List (Bool × zE) := [
  (false, 0, .aload_n 0, 1, 0, 0, 0, []),
  (false, 1, .iload_n 1, 1, 1, 0, 0, []),
  (false, 2, .invokevirtual 256, 3, 83, 2, 1, [(1321, 0)]),
  (false, 5, .ifCond .eq 15, 3, 10, 0, 0, []),
  (false, 8, .iload_n 2, 1, 2, 0, 0, []),
  (false, 9, .i2l, 1, 0, 0, 0, []),
  (false, 10, .lconst 0, 1, 0, 0, 0, []),
  (false, 11, .ldc2_w 151, 3, 1203, 0, 6, []),
  (false, 14, .invokestatic 91, 3, 50, 3, 1, [(1147, 0)]),
  (false, 17, .ifCond .ne 5, 3, 12, 0, 0, []),
  (false, 20, .iconst (-1), 1, 0, 0, (-1), []),
  (false, 21, .ireturn, 1, 0, 0, 0, []),
  (false, 22, .aload_n 0, 1, 0, 0, 0, []),
  (false, 23, .invokevirtual 241, 3, 81, 1, 0, [(1227, 0)]),
  (false, 26, .iload_n 2, 1, 2, 0, 0, []),
  (false, 27, .bipush 6, 2, 0, 0, 6, []),
  (false, 29, .if_icmp .ne 10, 3, 22, 0, 0, []),
  (false, 32, .aload_n 0, 1, 0, 0, 0, []),
  (false, 33, .getfield 22, 3, 10, 13, 13, [(1016, 22)]),
  (false, 36, .iload_n 1, 1, 1, 0, 0, []),
  (false, 37, .iaload, 1, 0, 0, 0, []),
  (false, 38, .ireturn, 1, 0, 0, 0, []),
  (false, 39, .iload_n 2, 1, 2, 0, 0, []),
  (false, 40, .ifCond .ne 21, 3, 33, 0, 0, []),
  (false, 43, .aload_n 0, 1, 0, 0, 0, []),
  (false, 44, .getfield 7, 3, 10, 0, 0, [(1003, 7)]),
  (false, 47, .sipush 128, 3, 0, 0, 128, []),
  (false, 50, .iload_n 1, 1, 1, 0, 0, []),
  (false, 51, .iadd, 1, 0, 0, 0, []),
  (false, 52, .iaload, 1, 0, 0, 0, []),
  (false, 53, .ifCond .ne 8, 3, 33, 0, 0, []),
  (false, 56, .bipush (-4), 2, 0, 0, (-4), []),
  (false, 58, .goto 17, 3, 43, 0, 0, []),
  (false, 61, .aload_n 0, 1, 0, 0, 0, []),
  (false, 62, .getfield 7, 3, 10, 0, 0, [(1003, 7)]),
  (false, 65, .bipush 120, 2, 0, 0, 120, []),
  (false, 67, .bipush 8, 2, 0, 0, 8, []),
  (false, 69, .iload_n 2, 1, 2, 0, 0, []),
  (false, 70, .imul, 1, 0, 0, 0, []),
  (false, 71, .iadd, 1, 0, 0, 0, []),
  (false, 72, .iload_n 1, 1, 1, 0, 0, []),
  (false, 73, .iadd, 1, 0, 0, 0, []),
  (false, 74, .iaload, 1, 0, 0, 0, []),
  (false, 75, .ireturn, 1, 0, 0, 0, []),
  (false, 76, .nop, 0, 0, 0, 0, [])]
/-- M.step -/
def zt_90 : List (Bool × zE) := [
  (false, 0, .aload_n 0, 1, 0, 0, 0, []),
  (false, 1, .iload_n 1, 1, 1, 0, 0, []),
  (false, 2, .invokevirtual 259, 3, 84, 2, 1, [(1329, 0)]),
  (false, 5, .ifCond .eq 29, 3, 19, 0, 0, []),
  (false, 8, .iload_n 2, 1, 2, 0, 0, []),
  (false, 9, .i2l, 1, 0, 0, 0, []),
  (false, 10, .lconst 0, 1, 0, 0, 0, []),
  (false, 11, .ldc2_w 164, 3, 1206, 0, 4, []),
  (false, 14, .invokestatic 91, 3, 50, 3, 1, [(1147, 0)]),
  (false, 17, .ifCond .eq 17, 3, 19, 0, 0, []),
  (false, 20, .aload_n 0, 1, 0, 0, 0, []),
  (false, 21, .getfield 7, 3, 10, 0, 0, [(1003, 7)]),
  (false, 24, .bipush 24, 2, 0, 0, 24, []),
  (false, 26, .iload_n 2, 1, 2, 0, 0, []),
  (false, 27, .imul, 1, 0, 0, 0, []),
  (false, 28, .iload_n 1, 1, 1, 0, 0, []),
  (false, 29, .iadd, 1, 0, 0, 0, []),
  (false, 30, .iaload, 1, 0, 0, 0, []),
  (false, 31, .goto 4, 3, 20, 0, 0, []),
  (false, 34, .iconst (-1), 1, 0, 0, (-1), []),
  (false, 35, .ireturn, 1, 0, 0, 0, []),
  (false, 36, .nop, 0, 0, 0, 0, [])]
/-- M.give -/
def zt_91 : List (Bool × zE) := [
  (false, 0, .iload_n 1, 1, 1, 0, 0, []),
  (false, 1, .invokestatic 262, 3, 85, 1, 1, [(1337, 0)]),
  (false, 4, .ifCond .eq 17, 3, 9, 0, 0, []),
  (false, 7, .iload_n 2, 1, 2, 0, 0, []),
  (false, 8, .i2l, 1, 0, 0, 0, []),
  (false, 9, .ldc2_w 265, 3, 1341, 0, (-1), []),
  (false, 12, .ldc2_w 267, 3, 1342, 0, 99, []),
  (false, 15, .invokestatic 91, 3, 50, 3, 1, [(1147, 0)]),
  (false, 18, .ifCond .ne 5, 3, 11, 0, 0, []),
  (false, 21, .iconst (-1), 1, 0, 0, (-1), []),
  (false, 22, .ireturn, 1, 0, 0, 0, []),
  (false, 23, .aload_n 0, 1, 0, 0, 0, []),
  (false, 24, .getfield 7, 3, 10, 0, 0, [(1003, 7)]),
  (false, 27, .sipush 168, 3, 0, 0, 168, []),
  (false, 30, .iload_n 1, 1, 1, 0, 0, []),
  (false, 31, .iadd, 1, 0, 0, 0, []),
  (false, 32, .iaload, 1, 0, 0, 0, []),
  (false, 33, .ifCond .ne 8, 3, 20, 0, 0, []),
  (false, 36, .bipush (-4), 2, 0, 0, (-4), []),
  (false, 38, .goto 15, 3, 28, 0, 0, []),
  (false, 41, .aload_n 0, 1, 0, 0, 0, []),
  (false, 42, .getfield 7, 3, 10, 0, 0, [(1003, 7)]),
  (false, 45, .sipush 168, 3, 0, 0, 168, []),
  (false, 48, .iload_n 1, 1, 1, 0, 0, []),
  (false, 49, .iadd, 1, 0, 0, 0, []),
  (false, 50, .iaload, 1, 0, 0, 0, []),
  (false, 51, .iconst 1, 1, 0, 0, 1, []),
  (false, 52, .isub, 1, 0, 0, 0, []),
  (false, 53, .istore_n 3, 1, 3, 0, 0, []),
  (false, 54, .aload_n 0, 1, 0, 0, 0, []),
  (false, 55, .getfield 7, 3, 10, 0, 0, [(1003, 7)]),
  (false, 58, .sipush 168, 3, 0, 0, 168, []),
  (false, 61, .iload_n 1, 1, 1, 0, 0, []),
  (false, 62, .iadd, 1, 0, 0, 0, []),
  (false, 63, .iload_n 2, 1, 2, 0, 0, []),
  (false, 64, .iconst 1, 1, 0, 0, 1, []),
  (false, 65, .iadd, 1, 0, 0, 0, []),
  (false, 66, .iastore, 1, 0, 0, 0, []),
  (false, 67, .aload_n 0, 1, 0, 0, 0, []),
  (false, 68, .iconst 0, 1, 0, 0, 0, []),
  (false, 69, .putstatic 182, 3, 10, 14, 14, [(1017, 182)]),
  (false, 72, .iload_n 3, 1, 3, 0, 0, []),
  (false, 73, .ireturn, 1, 0, 0, 0, []),
  (false, 74, .nop, 0, 0, 0, 0, [])]
/-- M.wise -/
def zt_92 : List (Bool × zE) := [
  (false, 0, .iload_n 1, 1, 1, 0, 0, []),
  (false, 1, .i2l, 1, 0, 0, 0, []),
  (false, 2, .lconst 0, 1, 0, 0, 0, []),
  (false, 3, .lconst 1, 1, 0, 0, 1, []),
  (false, 4, .invokestatic 91, 3, 50, 3, 1, [(1147, 0)]),
  (false, 7, .ifCond .ne 5, 3, 8, 0, 0, []),
  (false, 10, .iconst (-1), 1, 0, 0, (-1), []),
  (false, 11, .ireturn, 1, 0, 0, 0, []),
  (false, 12, .iconst 1, 1, 0, 0, 1, []),
  (false, 13, .aload_n 0, 1, 0, 0, 0, []),
  (false, 14, .getfield 7, 3, 10, 0, 0, [(1003, 7)]),
  (false, 17, .sipush 174, 3, 0, 0, 174, []),
  (false, 20, .iaload, 1, 0, 0, 0, []),
  (false, 21, .isub, 1, 0, 0, 0, []),
  (false, 22, .istore_n 2, 1, 2, 0, 0, []),
  (false, 23, .aload_n 0, 1, 0, 0, 0, []),
  (false, 24, .getfield 7, 3, 10, 0, 0, [(1003, 7)]),
  (false, 27, .sipush 174, 3, 0, 0, 174, []),
  (false, 30, .iconst 1, 1, 0, 0, 1, []),
  (false, 31, .iload_n 1, 1, 1, 0, 0, []),
  (false, 32, .isub, 1, 0, 0, 0, []),
  (false, 33, .iastore, 1, 0, 0, 0, []),
  (false, 34, .aload_n 0, 1, 0, 0, 0, []),
  (false, 35, .iconst 0, 1, 0, 0, 0, []),
  (false, 36, .putstatic 182, 3, 10, 14, 14, [(1017, 182)]),
  (false, 39, .iload_n 2, 1, 2, 0, 0, []),
  (false, 40, .ireturn, 1, 0, 0, 0, []),
  (false, 41, .nop, 0, 0, 0, 0, [])]
/-- M.leadsTo -/
def zt_93 : List (Bool × zE) := [
  (false, 0, .iconst 0, 1, 0, 0, 0, []),
  (false, 1, .istore_n 2, 1, 2, 0, 0, []),
  (true, 2, .iload_n 2, 1, 2, 0, 0, []),
  (false, 3, .aload_n 0, 1, 0, 0, 0, []),
  (false, 4, .getfield 206, 3, 10, 15, 15, [(1018, 206)]),
  (false, 7, .if_icmp .ge 31, 3, 22, 0, 0, []),
  (false, 10, .aload_n 0, 1, 0, 0, 0, []),
  (false, 11, .getfield 34, 3, 10, 20, 20, [(1023, 34)]),
  (false, 14, .iload_n 2, 1, 2, 0, 0, []),
  (false, 15, .iaload, 1, 0, 0, 0, []),
  (false, 16, .iload_n 1, 1, 1, 0, 0, []),
  (false, 17, .if_icmp .eq 13, 3, 18, 0, 0, []),
  (false, 20, .aload_n 0, 1, 0, 0, 0, []),
  (false, 21, .getfield 37, 3, 10, 21, 21, [(1024, 37)]),
  (false, 24, .iload_n 2, 1, 2, 0, 0, []),
  (false, 25, .iaload, 1, 0, 0, 0, []),
  (false, 26, .iload_n 1, 1, 1, 0, 0, []),
  (false, 27, .if_icmp .ne 5, 3, 20, 0, 0, []),
  (false, 30, .iload_n 2, 1, 2, 0, 0, []),
  (false, 31, .ireturn, 1, 0, 0, 0, []),
  (false, 32, .iinc 2 1, 3, 2, 0, 1, []),
  (false, 35, .goto (-33), 3, 2, 0, 0, []),
  (false, 38, .bipush (-4), 2, 0, 0, (-4), []),
  (false, 40, .ireturn, 1, 0, 0, 0, []),
  (false, 41, .nop, 0, 0, 0, 0, [])]
/-- M.point -/
def zt_94 : List (Bool × zE) := [
  (false, 0, .aload_n 0, 1, 0, 0, 0, []),
  (false, 1, .iload_n 1, 1, 1, 0, 0, []),
  (false, 2, .invokevirtual 269, 3, 82, 2, 1, [(1351, 0)]),
  (false, 5, .ifCond .ne 5, 3, 6, 0, 0, []),
  (false, 8, .iconst (-1), 1, 0, 0, (-1), []),
  (false, 9, .ireturn, 1, 0, 0, 0, []),
  (false, 10, .iload_n 2, 1, 2, 0, 0, []),
  (false, 11, .tableswitch 99 0 7 #[45, 52, 59, 66, 73, 80, 87, 93], 45, 46, 0, 0, [(0, 8), (1, 13), (2, 18), (3, 23), (4, 28), (5, 33), (6, 38), (7, 42)]),
  (false, 56, .aload_n 0, 1, 0, 0, 0, []),
  (false, 57, .getfield 25, 3, 10, 17, 17, [(1020, 25)]),
  (false, 60, .iload_n 1, 1, 1, 0, 0, []),
  (false, 61, .iaload, 1, 0, 0, 0, []),
  (false, 62, .ireturn, 1, 0, 0, 0, []),
  (false, 63, .aload_n 0, 1, 0, 0, 0, []),
  (false, 64, .getfield 43, 3, 10, 23, 23, [(1026, 43)]),
  (false, 67, .iload_n 1, 1, 1, 0, 0, []),
  (false, 68, .iaload, 1, 0, 0, 0, []),
  (false, 69, .ireturn, 1, 0, 0, 0, []),
  (false, 70, .aload_n 0, 1, 0, 0, 0, []),
  (false, 71, .getfield 31, 3, 10, 19, 19, [(1022, 31)]),
  (false, 74, .iload_n 1, 1, 1, 0, 0, []),
  (false, 75, .iaload, 1, 0, 0, 0, []),
  (false, 76, .ireturn, 1, 0, 0, 0, []),
  (false, 77, .aload_n 0, 1, 0, 0, 0, []),
  (false, 78, .getfield 34, 3, 10, 20, 20, [(1023, 34)]),
  (false, 81, .iload_n 1, 1, 1, 0, 0, []),
  (false, 82, .iaload, 1, 0, 0, 0, []),
  (false, 83, .ireturn, 1, 0, 0, 0, []),
  (false, 84, .aload_n 0, 1, 0, 0, 0, []),
  (false, 85, .getfield 37, 3, 10, 21, 21, [(1024, 37)]),
  (false, 88, .iload_n 1, 1, 1, 0, 0, []),
  (false, 89, .iaload, 1, 0, 0, 0, []),
  (false, 90, .ireturn, 1, 0, 0, 0, []),
  (false, 91, .aload_n 0, 1, 0, 0, 0, []),
  (false, 92, .getfield 40, 3, 10, 22, 22, [(1025, 40)]),
  (false, 95, .iload_n 1, 1, 1, 0, 0, []),
  (false, 96, .iaload, 1, 0, 0, 0, []),
  (false, 97, .ireturn, 1, 0, 0, 0, []),
  (false, 98, .aload_n 0, 1, 0, 0, 0, []),
  (false, 99, .iload_n 1, 1, 1, 0, 0, []),
  (false, 100, .invokevirtual 272, 3, 93, 2, 1, [(1355, 0)]),
  (false, 103, .ireturn, 1, 0, 0, 0, []),
  (false, 104, .aload_n 0, 1, 0, 0, 0, []),
  (false, 105, .iload_n 1, 1, 1, 0, 0, []),
  (false, 106, .invokevirtual 246, 3, 103, 2, 1, [(1289, 0)]),
  (false, 109, .ireturn, 1, 0, 0, 0, []),
  (false, 110, .iconst (-1), 1, 0, 0, (-1), []),
  (false, 111, .ireturn, 1, 0, 0, 0, []),
  (false, 112, .nop, 0, 0, 0, 0, [])]
/-- M.held -/
def zt_95 : List (Bool × zE) := [
  (false, 0, .aload_n 0, 1, 0, 0, 0, []),
  (false, 1, .iload_n 1, 1, 1, 0, 0, []),
  (false, 2, .invokevirtual 269, 3, 82, 2, 1, [(1351, 0)]),
  (false, 5, .ifCond .eq 10, 3, 7, 0, 0, []),
  (false, 8, .iload_n 2, 1, 2, 0, 0, []),
  (false, 9, .invokestatic 262, 3, 85, 1, 1, [(1337, 0)]),
  (false, 12, .ifCond .ne 5, 3, 9, 0, 0, []),
  (false, 15, .iconst (-1), 1, 0, 0, (-1), []),
  (false, 16, .ireturn, 1, 0, 0, 0, []),
  (false, 17, .aload_n 0, 1, 0, 0, 0, []),
  (false, 18, .getfield 189, 3, 10, 12, 12, [(1015, 189)]),
  (false, 21, .iload_n 2, 1, 2, 0, 0, []),
  (false, 22, .ishr, 1, 0, 0, 0, []),
  (false, 23, .iconst 1, 1, 0, 0, 1, []),
  (false, 24, .iand, 1, 0, 0, 0, []),
  (false, 25, .iconst 1, 1, 0, 0, 1, []),
  (false, 26, .if_icmp .ne 8, 3, 19, 0, 0, []),
  (false, 29, .bipush (-4), 2, 0, 0, (-4), []),
  (false, 31, .goto 14, 3, 27, 0, 0, []),
  (false, 34, .aload_n 0, 1, 0, 0, 0, []),
  (false, 35, .getfield 28, 3, 10, 18, 18, [(1021, 28)]),
  (false, 38, .bipush 6, 2, 0, 0, 6, []),
  (false, 40, .iload_n 1, 1, 1, 0, 0, []),
  (false, 41, .imul, 1, 0, 0, 0, []),
  (false, 42, .iload_n 2, 1, 2, 0, 0, []),
  (false, 43, .iadd, 1, 0, 0, 0, []),
  (false, 44, .iaload, 1, 0, 0, 0, []),
  (false, 45, .ireturn, 1, 0, 0, 0, []),
  (false, 46, .nop, 0, 0, 0, 0, [])]
/-- M.left -/
def zt_96 : List (Bool × zE) := [
  (false, 0, .aload_n 0, 1, 0, 0, 0, []),
  (false, 1, .iload_n 1, 1, 1, 0, 0, []),
  (false, 2, .invokevirtual 269, 3, 82, 2, 1, [(1351, 0)]),
  (false, 5, .ifCond .eq 51, 3, 35, 0, 0, []),
  (false, 8, .iload_n 2, 1, 2, 0, 0, []),
  (false, 9, .i2l, 1, 0, 0, 0, []),
  (false, 10, .lconst 0, 1, 0, 0, 0, []),
  (false, 11, .aload_n 0, 1, 0, 0, 0, []),
  (false, 12, .getfield 43, 3, 10, 23, 23, [(1026, 43)]),
  (false, 15, .iload_n 1, 1, 1, 0, 0, []),
  (false, 16, .iaload, 1, 0, 0, 0, []),
  (false, 17, .iconst 1, 1, 0, 0, 1, []),
  (false, 18, .isub, 1, 0, 0, 0, []),
  (false, 19, .i2l, 1, 0, 0, 0, []),
  (false, 20, .invokestatic 91, 3, 50, 3, 1, [(1147, 0)]),
  (false, 23, .ifCond .eq 33, 3, 35, 0, 0, []),
  (false, 26, .iload_n 3, 1, 3, 0, 0, []),
  (false, 27, .i2l, 1, 0, 0, 0, []),
  (false, 28, .lconst 0, 1, 0, 0, 0, []),
  (false, 29, .ldc2_w 164, 3, 1206, 0, 4, []),
  (false, 32, .invokestatic 91, 3, 50, 3, 1, [(1147, 0)]),
  (false, 35, .ifCond .eq 21, 3, 35, 0, 0, []),
  (false, 38, .aload_n 0, 1, 0, 0, 0, []),
  (false, 39, .getfield 46, 3, 10, 24, 24, [(1027, 46)]),
  (false, 42, .bipush 120, 2, 0, 0, 120, []),
  (false, 44, .iload_n 1, 1, 1, 0, 0, []),
  (false, 45, .imul, 1, 0, 0, 0, []),
  (false, 46, .iconst 5, 1, 0, 0, 5, []),
  (false, 47, .iload_n 2, 1, 2, 0, 0, []),
  (false, 48, .imul, 1, 0, 0, 0, []),
  (false, 49, .iadd, 1, 0, 0, 0, []),
  (false, 50, .iload_n 3, 1, 3, 0, 0, []),
  (false, 51, .iadd, 1, 0, 0, 0, []),
  (false, 52, .iaload, 1, 0, 0, 0, []),
  (false, 53, .goto 4, 3, 36, 0, 0, []),
  (false, 56, .iconst (-1), 1, 0, 0, (-1), []),
  (false, 57, .ireturn, 1, 0, 0, 0, []),
  (false, 58, .nop, 0, 0, 0, 0, [])]
/-- M.shows -/
def zt_97 : List (Bool × zE) := [
  (false, 0, .aload_n 0, 1, 0, 0, 0, []),
  (false, 1, .getfield 52, 3, 10, 26, 26, [(1029, 52)]),
  (false, 4, .aload_n 0, 1, 0, 0, 0, []),
  (false, 5, .getfield 275, 3, 10, 27, 27, [(1030, 275)]),
  (false, 8, .iload_n 1, 1, 1, 0, 0, []),
  (false, 9, .iastore, 1, 0, 0, 0, []),
  (false, 10, .aload_n 0, 1, 0, 0, 0, []),
  (false, 11, .dup, 1, 0, 0, 0, []),
  (false, 12, .getfield 275, 3, 10, 27, 27, [(1030, 275)]),
  (false, 15, .iconst 1, 1, 0, 0, 1, []),
  (false, 16, .iadd, 1, 0, 0, 0, []),
  (false, 17, .putfield 275, 3, 10, 27, 27, [(1030, 275)]),
  (false, 20, .return_, 1, 0, 0, 0, []),
  (false, 21, .nop, 0, 0, 0, 0, [])]
/-- M.showsNumber -/
def zt_98 : List (Bool × zE) := [
  (false, 0, .iload_n 1, 1, 1, 0, 0, []),
  (false, 1, .bipush 9, 2, 0, 0, 9, []),
  (false, 3, .if_icmp .le 14, 3, 10, 0, 0, []),
  (false, 6, .aload_n 0, 1, 0, 0, 0, []),
  (false, 7, .bipush 48, 2, 0, 0, 48, []),
  (false, 9, .iload_n 1, 1, 1, 0, 0, []),
  (false, 10, .bipush 10, 2, 0, 0, 10, []),
  (false, 12, .idiv, 1, 0, 0, 0, []),
  (false, 13, .iadd, 1, 0, 0, 0, []),
  (false, 14, .invokevirtual 278, 3, 97, 2, 0, [(1293, 0)]),
  (false, 17, .aload_n 0, 1, 0, 0, 0, []),
  (false, 18, .bipush 48, 2, 0, 0, 48, []),
  (false, 20, .iload_n 1, 1, 1, 0, 0, []),
  (false, 21, .bipush 10, 2, 0, 0, 10, []),
  (false, 23, .irem, 1, 0, 0, 0, []),
  (false, 24, .iadd, 1, 0, 0, 0, []),
  (false, 25, .invokevirtual 278, 3, 97, 2, 0, [(1293, 0)]),
  (false, 28, .return_, 1, 0, 0, 0, []),
  (false, 29, .nop, 0, 0, 0, 0, [])]
/-- M.showsWord -/
def zt_99 : List (Bool × zE) := [
  (false, 0, .aload_n 0, 1, 0, 0, 0, []),
  (false, 1, .getfield 16, 3, 10, 10, 10, [(1013, 16)]),
  (false, 4, .iload_n 1, 1, 1, 0, 0, []),
  (false, 5, .iaload, 1, 0, 0, 0, []),
  (false, 6, .istore_n 2, 1, 2, 0, 0, []),
  (true, 7, .iload_n 2, 1, 2, 0, 0, []),
  (false, 8, .aload_n 0, 1, 0, 0, 0, []),
  (false, 9, .getfield 16, 3, 10, 10, 10, [(1013, 16)]),
  (false, 12, .iload_n 1, 1, 1, 0, 0, []),
  (false, 13, .iconst 1, 1, 0, 0, 1, []),
  (false, 14, .iadd, 1, 0, 0, 0, []),
  (false, 15, .iaload, 1, 0, 0, 0, []),
  (false, 16, .if_icmp .ge 19, 3, 21, 0, 0, []),
  (false, 19, .aload_n 0, 1, 0, 0, 0, []),
  (false, 20, .aload_n 0, 1, 0, 0, 0, []),
  (false, 21, .getfield 19, 3, 10, 11, 11, [(1014, 19)]),
  (false, 24, .iload_n 2, 1, 2, 0, 0, []),
  (false, 25, .iaload, 1, 0, 0, 0, []),
  (false, 26, .invokevirtual 278, 3, 97, 2, 0, [(1293, 0)]),
  (false, 29, .iinc 2 1, 3, 2, 0, 1, []),
  (false, 32, .goto (-25), 3, 5, 0, 0, []),
  (false, 35, .return_, 1, 0, 0, 0, []),
  (false, 36, .nop, 0, 0, 0, 0, [])]
/-- M.showsOperand -/
def zt_100 : List (Bool × zE) := [
  (false, 0, .aload_n 0, 1, 0, 0, 0, []),
  (false, 1, .bipush 32, 2, 0, 0, 32, []),
  (false, 3, .invokevirtual 278, 3, 97, 2, 0, [(1293, 0)]),
  (false, 6, .iload_n 1, 1, 1, 0, 0, []),
  (false, 7, .bipush 100, 2, 0, 0, 100, []),
  (false, 9, .if_icmp .ge 11, 3, 10, 0, 0, []),
  (false, 12, .aload_n 0, 1, 0, 0, 0, []),
  (false, 13, .iload_n 1, 1, 1, 0, 0, []),
  (false, 14, .invokevirtual 281, 3, 98, 2, 0, [(1297, 0)]),
  (false, 17, .goto 14, 3, 17, 0, 0, []),
  (false, 20, .aload_n 0, 1, 0, 0, 0, []),
  (false, 21, .bipush 97, 2, 0, 0, 97, []),
  (false, 23, .iload_n 1, 1, 1, 0, 0, []),
  (false, 24, .iadd, 1, 0, 0, 0, []),
  (false, 25, .bipush 100, 2, 0, 0, 100, []),
  (false, 27, .isub, 1, 0, 0, 0, []),
  (false, 28, .invokevirtual 278, 3, 97, 2, 0, [(1293, 0)]),
  (false, 31, .return_, 1, 0, 0, 0, []),
  (false, 32, .nop, 0, 0, 0, 0, [])]
/-- M.showsStep -/
def zt_101 : List (Bool × zE) := [
  (false, 0, .aload_n 0, 1, 0, 0, 0, []),
  (false, 1, .aload_n 0, 1, 0, 0, 0, []),
  (false, 2, .getfield 46, 3, 10, 24, 24, [(1027, 46)]),
  (false, 5, .iload_n 1, 1, 1, 0, 0, []),
  (false, 6, .iaload, 1, 0, 0, 0, []),
  (false, 7, .invokevirtual 284, 3, 99, 2, 0, [(1305, 0)]),
  (false, 10, .aload_n 0, 1, 0, 0, 0, []),
  (false, 11, .getfield 46, 3, 10, 24, 24, [(1027, 46)]),
  (false, 14, .iload_n 1, 1, 1, 0, 0, []),
  (false, 15, .iaload, 1, 0, 0, 0, []),
  (false, 16, .ifCond .ne 18, 3, 21, 0, 0, []),
  (false, 19, .aload_n 0, 1, 0, 0, 0, []),
  (false, 20, .bipush 100, 2, 0, 0, 100, []),
  (false, 22, .aload_n 0, 1, 0, 0, 0, []),
  (false, 23, .getfield 46, 3, 10, 24, 24, [(1027, 46)]),
  (false, 26, .iload_n 1, 1, 1, 0, 0, []),
  (false, 27, .iconst 1, 1, 0, 0, 1, []),
  (false, 28, .iadd, 1, 0, 0, 0, []),
  (false, 29, .iaload, 1, 0, 0, 0, []),
  (false, 30, .iadd, 1, 0, 0, 0, []),
  (false, 31, .invokevirtual 287, 3, 100, 2, 0, [(1309, 0)]),
  (false, 34, .aload_n 0, 1, 0, 0, 0, []),
  (false, 35, .aload_n 0, 1, 0, 0, 0, []),
  (false, 36, .getfield 46, 3, 10, 24, 24, [(1027, 46)]),
  (false, 39, .iload_n 1, 1, 1, 0, 0, []),
  (false, 40, .iconst 2, 1, 0, 0, 2, []),
  (false, 41, .iadd, 1, 0, 0, 0, []),
  (false, 42, .iaload, 1, 0, 0, 0, []),
  (false, 43, .invokevirtual 287, 3, 100, 2, 0, [(1309, 0)]),
  (false, 46, .aload_n 0, 1, 0, 0, 0, []),
  (false, 47, .getfield 46, 3, 10, 24, 24, [(1027, 46)]),
  (false, 50, .iload_n 1, 1, 1, 0, 0, []),
  (false, 51, .iaload, 1, 0, 0, 0, []),
  (false, 52, .ifCond .ne 36, 3, 55, 0, 0, []),
  (false, 55, .aload_n 0, 1, 0, 0, 0, []),
  (false, 56, .bipush 32, 2, 0, 0, 32, []),
  (false, 58, .invokevirtual 278, 3, 97, 2, 0, [(1293, 0)]),
  (false, 61, .aload_n 0, 1, 0, 0, 0, []),
  (false, 62, .bipush 6, 2, 0, 0, 6, []),
  (false, 64, .aload_n 0, 1, 0, 0, 0, []),
  (false, 65, .getfield 46, 3, 10, 24, 24, [(1027, 46)]),
  (false, 68, .iload_n 1, 1, 1, 0, 0, []),
  (false, 69, .iconst 3, 1, 0, 0, 3, []),
  (false, 70, .iadd, 1, 0, 0, 0, []),
  (false, 71, .iaload, 1, 0, 0, 0, []),
  (false, 72, .iadd, 1, 0, 0, 0, []),
  (false, 73, .invokevirtual 284, 3, 99, 2, 0, [(1305, 0)]),
  (false, 76, .aload_n 0, 1, 0, 0, 0, []),
  (false, 77, .aload_n 0, 1, 0, 0, 0, []),
  (false, 78, .getfield 46, 3, 10, 24, 24, [(1027, 46)]),
  (false, 81, .iload_n 1, 1, 1, 0, 0, []),
  (false, 82, .iconst 4, 1, 0, 0, 4, []),
  (false, 83, .iadd, 1, 0, 0, 0, []),
  (false, 84, .iaload, 1, 0, 0, 0, []),
  (false, 85, .invokevirtual 287, 3, 100, 2, 0, [(1309, 0)]),
  (false, 88, .aload_n 0, 1, 0, 0, 0, []),
  (false, 89, .bipush 59, 2, 0, 0, 59, []),
  (false, 91, .invokevirtual 278, 3, 97, 2, 0, [(1293, 0)]),
  (false, 94, .return_, 1, 0, 0, 0, []),
  (false, 95, .nop, 0, 0, 0, 0, [])]
/-- M.showsPoint -/
def zt_102 : List (Bool × zE) := [
  (false, 0, .aload_n 0, 1, 0, 0, 0, []),
  (false, 1, .bipush 32, 2, 0, 0, 32, []),
  (false, 3, .invokevirtual 278, 3, 97, 2, 0, [(1293, 0)]),
  (false, 6, .aload_n 0, 1, 0, 0, 0, []),
  (false, 7, .bipush 112, 2, 0, 0, 112, []),
  (false, 9, .invokevirtual 278, 3, 97, 2, 0, [(1293, 0)]),
  (false, 12, .aload_n 0, 1, 0, 0, 0, []),
  (false, 13, .iload_n 1, 1, 1, 0, 0, []),
  (false, 14, .invokevirtual 281, 3, 98, 2, 0, [(1297, 0)]),
  (false, 17, .return_, 1, 0, 0, 0, []),
  (false, 18, .nop, 0, 0, 0, 0, [])]
/-- M.shownOf -/
def zt_103 : List (Bool × zE) := [
  (false, 0, .aload_n 0, 1, 0, 0, 0, []),
  (false, 1, .iconst 0, 1, 0, 0, 0, []),
  (false, 2, .putfield 275, 3, 10, 27, 27, [(1030, 275)]),
  (false, 5, .aload_n 0, 1, 0, 0, 0, []),
  (false, 6, .bipush 112, 2, 0, 0, 112, []),
  (false, 8, .invokevirtual 278, 3, 97, 2, 0, [(1293, 0)]),
  (false, 11, .aload_n 0, 1, 0, 0, 0, []),
  (false, 12, .iload_n 1, 1, 1, 0, 0, []),
  (false, 13, .invokevirtual 281, 3, 98, 2, 0, [(1297, 0)]),
  (false, 16, .aload_n 0, 1, 0, 0, 0, []),
  (false, 17, .bipush 58, 2, 0, 0, 58, []),
  (false, 19, .invokevirtual 278, 3, 97, 2, 0, [(1293, 0)]),
  (false, 22, .iconst 0, 1, 0, 0, 0, []),
  (false, 23, .istore_n 2, 1, 2, 0, 0, []),
  (true, 24, .iload_n 2, 1, 2, 0, 0, []),
  (false, 25, .aload_n 0, 1, 0, 0, 0, []),
  (false, 26, .getfield 43, 3, 10, 23, 23, [(1026, 43)]),
  (false, 29, .iload_n 1, 1, 1, 0, 0, []),
  (false, 30, .iaload, 1, 0, 0, 0, []),
  (false, 31, .if_icmp .ge 27, 3, 34, 0, 0, []),
  (false, 34, .aload_n 0, 1, 0, 0, 0, []),
  (false, 35, .bipush 32, 2, 0, 0, 32, []),
  (false, 37, .invokevirtual 278, 3, 97, 2, 0, [(1293, 0)]),
  (false, 40, .aload_n 0, 1, 0, 0, 0, []),
  (false, 41, .bipush 120, 2, 0, 0, 120, []),
  (false, 43, .iload_n 1, 1, 1, 0, 0, []),
  (false, 44, .imul, 1, 0, 0, 0, []),
  (false, 45, .iconst 5, 1, 0, 0, 5, []),
  (false, 46, .iload_n 2, 1, 2, 0, 0, []),
  (false, 47, .imul, 1, 0, 0, 0, []),
  (false, 48, .iadd, 1, 0, 0, 0, []),
  (false, 49, .invokevirtual 290, 3, 101, 2, 0, [(1301, 0)]),
  (false, 52, .iinc 2 1, 3, 2, 0, 1, []),
  (false, 55, .goto (-31), 3, 14, 0, 0, []),
  (false, 58, .aload_n 0, 1, 0, 0, 0, []),
  (false, 59, .bipush 32, 2, 0, 0, 32, []),
  (false, 61, .invokevirtual 278, 3, 97, 2, 0, [(1293, 0)]),
  (false, 64, .aload_n 0, 1, 0, 0, 0, []),
  (false, 65, .iconst 2, 1, 0, 0, 2, []),
  (false, 66, .aload_n 0, 1, 0, 0, 0, []),
  (false, 67, .getfield 31, 3, 10, 19, 19, [(1022, 31)]),
  (false, 70, .iload_n 1, 1, 1, 0, 0, []),
  (false, 71, .iaload, 1, 0, 0, 0, []),
  (false, 72, .iadd, 1, 0, 0, 0, []),
  (false, 73, .invokevirtual 284, 3, 99, 2, 0, [(1305, 0)]),
  (false, 76, .aload_n 0, 1, 0, 0, 0, []),
  (false, 77, .getfield 31, 3, 10, 19, 19, [(1022, 31)]),
  (false, 80, .iload_n 1, 1, 1, 0, 0, []),
  (false, 81, .iaload, 1, 0, 0, 0, []),
  (false, 82, .iconst 1, 1, 0, 0, 1, []),
  (false, 83, .if_icmp .ne 16, 3, 59, 0, 0, []),
  (false, 86, .aload_n 0, 1, 0, 0, 0, []),
  (false, 87, .bipush 100, 2, 0, 0, 100, []),
  (false, 89, .aload_n 0, 1, 0, 0, 0, []),
  (false, 90, .getfield 40, 3, 10, 22, 22, [(1025, 40)]),
  (false, 93, .iload_n 1, 1, 1, 0, 0, []),
  (false, 94, .iaload, 1, 0, 0, 0, []),
  (false, 95, .iadd, 1, 0, 0, 0, []),
  (false, 96, .invokevirtual 287, 3, 100, 2, 0, [(1309, 0)]),
  (false, 99, .aload_n 0, 1, 0, 0, 0, []),
  (false, 100, .getfield 31, 3, 10, 19, 19, [(1022, 31)]),
  (false, 103, .iload_n 1, 1, 1, 0, 0, []),
  (false, 104, .iaload, 1, 0, 0, 0, []),
  (false, 105, .iconst 2, 1, 0, 0, 2, []),
  (false, 106, .if_icmp .ge 13, 3, 71, 0, 0, []),
  (false, 109, .aload_n 0, 1, 0, 0, 0, []),
  (false, 110, .aload_n 0, 1, 0, 0, 0, []),
  (false, 111, .getfield 34, 3, 10, 20, 20, [(1023, 34)]),
  (false, 114, .iload_n 1, 1, 1, 0, 0, []),
  (false, 115, .iaload, 1, 0, 0, 0, []),
  (false, 116, .invokevirtual 293, 3, 102, 2, 0, [(1313, 0)]),
  (false, 119, .aload_n 0, 1, 0, 0, 0, []),
  (false, 120, .getfield 31, 3, 10, 19, 19, [(1022, 31)]),
  (false, 123, .iload_n 1, 1, 1, 0, 0, []),
  (false, 124, .iaload, 1, 0, 0, 0, []),
  (false, 125, .iconst 1, 1, 0, 0, 1, []),
  (false, 126, .if_icmp .ne 13, 3, 83, 0, 0, []),
  (false, 129, .aload_n 0, 1, 0, 0, 0, []),
  (false, 130, .aload_n 0, 1, 0, 0, 0, []),
  (false, 131, .getfield 37, 3, 10, 21, 21, [(1024, 37)]),
  (false, 134, .iload_n 1, 1, 1, 0, 0, []),
  (false, 135, .iaload, 1, 0, 0, 0, []),
  (false, 136, .invokevirtual 293, 3, 102, 2, 0, [(1313, 0)]),
  (false, 139, .aload_n 0, 1, 0, 0, 0, []),
  (false, 140, .bipush 59, 2, 0, 0, 59, []),
  (false, 142, .invokevirtual 278, 3, 97, 2, 0, [(1293, 0)]),
  (false, 145, .aload_n 0, 1, 0, 0, 0, []),
  (false, 146, .getfield 275, 3, 10, 27, 27, [(1030, 275)]),
  (false, 149, .ireturn, 1, 0, 0, 0, []),
  (false, 150, .nop, 0, 0, 0, 0, [])]
/-- M.shown -/
def zt_104 : List (Bool × zE) := [
  (false, 0, .aload_n 0, 1, 0, 0, 0, []),
  (false, 1, .iload_n 1, 1, 1, 0, 0, []),
  (false, 2, .invokevirtual 269, 3, 82, 2, 1, [(1351, 0)]),
  (false, 5, .ifCond .eq 29, 3, 20, 0, 0, []),
  (false, 8, .iload_n 2, 1, 2, 0, 0, []),
  (false, 9, .i2l, 1, 0, 0, 0, []),
  (false, 10, .lconst 0, 1, 0, 0, 0, []),
  (false, 11, .aload_n 0, 1, 0, 0, 0, []),
  (false, 12, .iload_n 1, 1, 1, 0, 0, []),
  (false, 13, .invokevirtual 246, 3, 103, 2, 1, [(1289, 0)]),
  (false, 16, .iconst 1, 1, 0, 0, 1, []),
  (false, 17, .isub, 1, 0, 0, 0, []),
  (false, 18, .i2l, 1, 0, 0, 0, []),
  (false, 19, .invokestatic 91, 3, 50, 3, 1, [(1147, 0)]),
  (false, 22, .ifCond .eq 12, 3, 20, 0, 0, []),
  (false, 25, .aload_n 0, 1, 0, 0, 0, []),
  (false, 26, .getfield 52, 3, 10, 26, 26, [(1029, 52)]),
  (false, 29, .iload_n 2, 1, 2, 0, 0, []),
  (false, 30, .iaload, 1, 0, 0, 0, []),
  (false, 31, .goto 4, 3, 21, 0, 0, []),
  (false, 34, .iconst (-1), 1, 0, 0, (-1), []),
  (false, 35, .ireturn, 1, 0, 0, 0, []),
  (false, 36, .nop, 0, 0, 0, 0, [])]
/-- M.where -/
def zt_105 : List (Bool × zE) := [
  (false, 0, .aload_n 0, 1, 0, 0, 0, []),
  (false, 1, .iload_n 1, 1, 1, 0, 0, []),
  (false, 2, .invokevirtual 269, 3, 82, 2, 1, [(1351, 0)]),
  (false, 5, .ifCond .eq 34, 3, 22, 0, 0, []),
  (false, 8, .iload_n 2, 1, 2, 0, 0, []),
  (false, 9, .ifCond .lt 30, 3, 22, 0, 0, []),
  (false, 12, .aload_n 0, 1, 0, 0, 0, []),
  (false, 13, .iload_n 3, 1, 3, 0, 0, []),
  (false, 14, .invokevirtual 269, 3, 82, 2, 1, [(1351, 0)]),
  (false, 17, .ifCond .eq 22, 3, 22, 0, 0, []),
  (false, 20, .iload 4, 2, 4, 0, 0, []),
  (false, 22, .i2l, 1, 0, 0, 0, []),
  (false, 23, .lconst 0, 1, 0, 0, 0, []),
  (false, 24, .aload_n 0, 1, 0, 0, 0, []),
  (false, 25, .getfield 43, 3, 10, 23, 23, [(1026, 43)]),
  (false, 28, .iload_n 3, 1, 3, 0, 0, []),
  (false, 29, .iaload, 1, 0, 0, 0, []),
  (false, 30, .iconst 1, 1, 0, 0, 1, []),
  (false, 31, .isub, 1, 0, 0, 0, []),
  (false, 32, .i2l, 1, 0, 0, 0, []),
  (false, 33, .invokestatic 91, 3, 50, 3, 1, [(1147, 0)]),
  (false, 36, .ifCond .ne 5, 3, 24, 0, 0, []),
  (false, 39, .iconst (-1), 1, 0, 0, (-1), []),
  (false, 40, .ireturn, 1, 0, 0, 0, []),
  (false, 41, .aload_n 0, 1, 0, 0, 0, []),
  (false, 42, .iconst 0, 1, 0, 0, 0, []),
  (false, 43, .putfield 275, 3, 10, 27, 27, [(1030, 275)]),
  (false, 46, .aload_n 0, 1, 0, 0, 0, []),
  (false, 47, .bipush 120, 2, 0, 0, 120, []),
  (false, 49, .iload_n 3, 1, 3, 0, 0, []),
  (false, 50, .imul, 1, 0, 0, 0, []),
  (false, 51, .iconst 5, 1, 0, 0, 5, []),
  (false, 52, .iload 4, 2, 4, 0, 0, []),
  (false, 54, .imul, 1, 0, 0, 0, []),
  (false, 55, .iadd, 1, 0, 0, 0, []),
  (false, 56, .invokevirtual 290, 3, 101, 2, 0, [(1301, 0)]),
  (false, 59, .aload_n 0, 1, 0, 0, 0, []),
  (false, 60, .getfield 275, 3, 10, 27, 27, [(1030, 275)]),
  (false, 63, .istore 5, 2, 5, 0, 0, []),
  (false, 65, .iconst 0, 1, 0, 0, 0, []),
  (false, 66, .istore 6, 2, 6, 0, 0, []),
  (true, 68, .iload 6, 2, 6, 0, 0, []),
  (false, 70, .iload 5, 2, 5, 0, 0, []),
  (false, 72, .if_icmp .ge 23, 3, 54, 0, 0, []),
  (false, 75, .aload_n 0, 1, 0, 0, 0, []),
  (false, 76, .getfield 55, 3, 10, 28, 28, [(1031, 55)]),
  (false, 79, .iload 6, 2, 6, 0, 0, []),
  (false, 81, .aload_n 0, 1, 0, 0, 0, []),
  (false, 82, .getfield 52, 3, 10, 26, 26, [(1029, 52)]),
  (false, 85, .iload 6, 2, 6, 0, 0, []),
  (false, 87, .iaload, 1, 0, 0, 0, []),
  (false, 88, .iastore, 1, 0, 0, 0, []),
  (false, 89, .iinc 6 1, 3, 6, 0, 1, []),
  (false, 92, .goto (-24), 3, 41, 0, 0, []),
  (false, 95, .aload_n 0, 1, 0, 0, 0, []),
  (false, 96, .iload_n 1, 1, 1, 0, 0, []),
  (false, 97, .invokevirtual 246, 3, 103, 2, 1, [(1289, 0)]),
  (false, 100, .istore 6, 2, 6, 0, 0, []),
  (false, 102, .iload_n 2, 1, 2, 0, 0, []),
  (false, 103, .istore 7, 2, 7, 0, 0, []),
  (true, 105, .iload 7, 2, 7, 0, 0, []),
  (false, 107, .iload 6, 2, 6, 0, 0, []),
  (false, 109, .iload 5, 2, 5, 0, 0, []),
  (false, 111, .isub, 1, 0, 0, 0, []),
  (false, 112, .if_icmp .gt 68, 3, 97, 0, 0, []),
  (false, 115, .iconst 1, 1, 0, 0, 1, []),
  (false, 116, .istore 8, 2, 8, 0, 0, []),
  (false, 118, .iconst 0, 1, 0, 0, 0, []),
  (false, 119, .istore 9, 2, 9, 0, 0, []),
  (true, 121, .iload 9, 2, 9, 0, 0, []),
  (false, 123, .iload 5, 2, 5, 0, 0, []),
  (false, 125, .if_icmp .ge 41, 3, 91, 0, 0, []),
  (false, 128, .iload 8, 2, 8, 0, 0, []),
  (false, 130, .ifCond .eq 27, 3, 87, 0, 0, []),
  (false, 133, .aload_n 0, 1, 0, 0, 0, []),
  (false, 134, .getfield 52, 3, 10, 26, 26, [(1029, 52)]),
  (false, 137, .iload 7, 2, 7, 0, 0, []),
  (false, 139, .iload 9, 2, 9, 0, 0, []),
  (false, 141, .iadd, 1, 0, 0, 0, []),
  (false, 142, .iaload, 1, 0, 0, 0, []),
  (false, 143, .aload_n 0, 1, 0, 0, 0, []),
  (false, 144, .getfield 55, 3, 10, 28, 28, [(1031, 55)]),
  (false, 147, .iload 9, 2, 9, 0, 0, []),
  (false, 149, .iaload, 1, 0, 0, 0, []),
  (false, 150, .if_icmp .ne 7, 3, 87, 0, 0, []),
  (false, 153, .iconst 1, 1, 0, 0, 1, []),
  (false, 154, .goto 4, 3, 88, 0, 0, []),
  (false, 157, .iconst 0, 1, 0, 0, 0, []),
  (false, 158, .istore 8, 2, 8, 0, 0, []),
  (false, 160, .iinc 9 1, 3, 9, 0, 1, []),
  (false, 163, .goto (-42), 3, 69, 0, 0, []),
  (false, 166, .iload 8, 2, 8, 0, 0, []),
  (false, 168, .ifCond .eq 6, 3, 95, 0, 0, []),
  (false, 171, .iload 7, 2, 7, 0, 0, []),
  (false, 173, .ireturn, 1, 0, 0, 0, []),
  (false, 174, .iinc 7 1, 3, 7, 0, 1, []),
  (false, 177, .goto (-72), 3, 60, 0, 0, []),
  (false, 180, .bipush (-4), 2, 0, 0, (-4), []),
  (false, 182, .ireturn, 1, 0, 0, 0, []),
  (false, 183, .nop, 0, 0, 0, 0, [])]
/-- M.becomesBegin -/
def zt_106 : List (Bool × zE) := [
  (false, 0, .iload_n 1, 1, 1, 0, 0, []),
  (false, 1, .invokestatic 262, 3, 85, 1, 1, [(1337, 0)]),
  (false, 4, .ifCond .eq 15, 3, 9, 0, 0, []),
  (false, 7, .iload_n 2, 1, 2, 0, 0, []),
  (false, 8, .i2l, 1, 0, 0, 0, []),
  (false, 9, .lconst 0, 1, 0, 0, 0, []),
  (false, 10, .ldc2_w 267, 3, 1342, 0, 99, []),
  (false, 13, .invokestatic 91, 3, 50, 3, 1, [(1147, 0)]),
  (false, 16, .ifCond .ne 5, 3, 11, 0, 0, []),
  (false, 19, .iconst (-1), 1, 0, 0, (-1), []),
  (false, 20, .ireturn, 1, 0, 0, 0, []),
  (false, 21, .aload_n 0, 1, 0, 0, 0, []),
  (false, 22, .getfield 58, 3, 10, 29, 29, [(1032, 58)]),
  (false, 25, .iload_n 1, 1, 1, 0, 0, []),
  (false, 26, .iaload, 1, 0, 0, 0, []),
  (false, 27, .istore_n 3, 1, 3, 0, 0, []),
  (false, 28, .aload_n 0, 1, 0, 0, 0, []),
  (false, 29, .getfield 58, 3, 10, 29, 29, [(1032, 58)]),
  (false, 32, .iload_n 1, 1, 1, 0, 0, []),
  (false, 33, .iload_n 2, 1, 2, 0, 0, []),
  (false, 34, .iastore, 1, 0, 0, 0, []),
  (false, 35, .iload_n 3, 1, 3, 0, 0, []),
  (false, 36, .ireturn, 1, 0, 0, 0, []),
  (false, 37, .nop, 0, 0, 0, 0, [])]
/-- M.begin -/
def zt_107 : List (Bool × zE) := [
  (false, 0, .aload_n 0, 1, 0, 0, 0, []),
  (false, 1, .iload_n 1, 1, 1, 0, 0, []),
  (false, 2, .iload_n 2, 1, 2, 0, 0, []),
  (false, 3, .invokevirtual 296, 3, 106, 3, 1, [(1379, 0)]),
  (false, 6, .ireturn, 1, 0, 0, 0, []),
  (false, 7, .nop, 0, 0, 0, 0, [])]
/-- M.valueIn -/
def zt_108 : List (Bool × zE) := [
  (false, 0, .iload_n 1, 1, 1, 0, 0, []),
  (false, 1, .bipush 100, 2, 0, 0, 100, []),
  (false, 3, .if_icmp .ge 7, 3, 5, 0, 0, []),
  (false, 6, .iload_n 1, 1, 1, 0, 0, []),
  (false, 7, .goto 12, 3, 11, 0, 0, []),
  (false, 10, .aload_n 0, 1, 0, 0, 0, []),
  (false, 11, .getfield 61, 3, 10, 30, 30, [(1033, 61)]),
  (false, 14, .iload_n 1, 1, 1, 0, 0, []),
  (false, 15, .bipush 100, 2, 0, 0, 100, []),
  (false, 17, .isub, 1, 0, 0, 0, []),
  (false, 18, .iaload, 1, 0, 0, 0, []),
  (false, 19, .ireturn, 1, 0, 0, 0, []),
  (false, 20, .nop, 0, 0, 0, 0, [])]
/-- M.does -/
def zt_109 : List (Bool × zE) := [
  (false, 0, .iload_n 1, 1, 1, 0, 0, []),
  (false, 1, .ifCond .ne 28, 3, 15, 0, 0, []),
  (false, 4, .aload_n 0, 1, 0, 0, 0, []),
  (false, 5, .getfield 61, 3, 10, 30, 30, [(1033, 61)]),
  (false, 8, .iload_n 2, 1, 2, 0, 0, []),
  (false, 9, .iload 4, 2, 4, 0, 0, []),
  (false, 11, .aload_n 0, 1, 0, 0, 0, []),
  (false, 12, .iload_n 3, 1, 3, 0, 0, []),
  (false, 13, .invokevirtual 299, 3, 108, 2, 1, [(1403, 0)]),
  (false, 16, .aload_n 0, 1, 0, 0, 0, []),
  (false, 17, .iload 5, 2, 5, 0, 0, []),
  (false, 19, .invokevirtual 299, 3, 108, 2, 1, [(1403, 0)]),
  (false, 22, .invokestatic 219, 3, 77, 3, 1, [(1274, 0)]),
  (false, 25, .iastore, 1, 0, 0, 0, []),
  (false, 26, .goto 32, 3, 33, 0, 0, []),
  (false, 29, .aload_n 0, 1, 0, 0, 0, []),
  (false, 30, .bipush 31, 2, 0, 0, 31, []),
  (false, 32, .aload_n 0, 1, 0, 0, 0, []),
  (false, 33, .getfield 302, 3, 10, 31, 31, [(1034, 302)]),
  (false, 36, .fmul, 1, 0, 0, 0, []),
  (false, 37, .aload_n 0, 1, 0, 0, 0, []),
  (false, 38, .iload_n 3, 1, 3, 0, 0, []),
  (false, 39, .invokevirtual 299, 3, 108, 2, 1, [(1403, 0)]),
  (false, 42, .fadd, 1, 0, 0, 0, []),
  (false, 43, .iconst 1, 1, 0, 0, 1, []),
  (false, 44, .fadd, 1, 0, 0, 0, []),
  (false, 45, .putfield 302, 3, 10, 31, 31, [(1034, 302)]),
  (false, 48, .aload_n 0, 1, 0, 0, 0, []),
  (false, 49, .dup, 1, 0, 0, 0, []),
  (false, 50, .getfield 305, 3, 10, 32, 32, [(1035, 305)]),
  (false, 53, .iconst 1, 1, 0, 0, 1, []),
  (false, 54, .iadd, 1, 0, 0, 0, []),
  (false, 55, .putfield 305, 3, 10, 32, 32, [(1035, 305)]),
  (false, 58, .aload_n 0, 1, 0, 0, 0, []),
  (false, 59, .dup, 1, 0, 0, 0, []),
  (false, 60, .getfield 308, 3, 10, 34, 34, [(1037, 308)]),
  (false, 63, .iconst 1, 1, 0, 0, 1, []),
  (false, 64, .iadd, 1, 0, 0, 0, []),
  (false, 65, .putfield 308, 3, 10, 34, 34, [(1037, 308)]),
  (false, 68, .return_, 1, 0, 0, 0, []),
  (false, 69, .nop, 0, 0, 0, 0, [])]
/-- M.startsRun -/
def zt_110 : List (Bool × zE) := [
  (false, 0, .aload_n 0, 1, 0, 0, 0, []),
  (false, 1, .iconst 0, 1, 0, 0, 0, []),
  (false, 2, .putfield 302, 3, 10, 31, 31, [(1034, 302)]),
  (false, 5, .aload_n 0, 1, 0, 0, 0, []),
  (false, 6, .iconst 0, 1, 0, 0, 0, []),
  (false, 7, .putfield 305, 3, 10, 32, 32, [(1035, 305)]),
  (false, 10, .aload_n 0, 1, 0, 0, 0, []),
  (false, 11, .iconst 0, 1, 0, 0, 0, []),
  (false, 12, .putfield 311, 3, 10, 33, 33, [(1036, 311)]),
  (false, 15, .aload_n 0, 1, 0, 0, 0, []),
  (false, 16, .iconst 0, 1, 0, 0, 0, []),
  (false, 17, .putfield 308, 3, 10, 34, 34, [(1037, 308)]),
  (false, 20, .aload_n 0, 1, 0, 0, 0, []),
  (false, 21, .iconst 0, 1, 0, 0, 0, []),
  (false, 22, .putstatic 314, 3, 10, 35, 35, [(1038, 314)]),
  (false, 25, .iconst 0, 1, 0, 0, 0, []),
  (false, 26, .istore_n 1, 1, 1, 0, 0, []),
  (true, 27, .iload_n 1, 1, 1, 0, 0, []),
  (false, 28, .bipush 6, 2, 0, 0, 6, []),
  (false, 30, .if_icmp .ge 49, 3, 46, 0, 0, []),
  (false, 33, .aload_n 0, 1, 0, 0, 0, []),
  (false, 34, .getfield 61, 3, 10, 30, 30, [(1033, 61)]),
  (false, 37, .iload_n 1, 1, 1, 0, 0, []),
  (false, 38, .aload_n 0, 1, 0, 0, 0, []),
  (false, 39, .getfield 7, 3, 10, 0, 0, [(1003, 7)]),
  (false, 42, .sipush 168, 3, 0, 0, 168, []),
  (false, 45, .iload_n 1, 1, 1, 0, 0, []),
  (false, 46, .iadd, 1, 0, 0, 0, []),
  (false, 47, .iaload, 1, 0, 0, 0, []),
  (false, 48, .ifCond .le 18, 3, 39, 0, 0, []),
  (false, 51, .aload_n 0, 1, 0, 0, 0, []),
  (false, 52, .getfield 7, 3, 10, 0, 0, [(1003, 7)]),
  (false, 55, .sipush 168, 3, 0, 0, 168, []),
  (false, 58, .iload_n 1, 1, 1, 0, 0, []),
  (false, 59, .iadd, 1, 0, 0, 0, []),
  (false, 60, .iaload, 1, 0, 0, 0, []),
  (false, 61, .iconst 1, 1, 0, 0, 1, []),
  (false, 62, .isub, 1, 0, 0, 0, []),
  (false, 63, .goto 9, 3, 43, 0, 0, []),
  (false, 66, .aload_n 0, 1, 0, 0, 0, []),
  (false, 67, .getfield 67, 3, 10, 38, 38, [(1041, 67)]),
  (false, 70, .iload_n 1, 1, 1, 0, 0, []),
  (false, 71, .iaload, 1, 0, 0, 0, []),
  (false, 72, .iastore, 1, 0, 0, 0, []),
  (false, 73, .iinc 1 1, 3, 1, 0, 1, []),
  (false, 76, .goto (-49), 3, 17, 0, 0, []),
  (false, 79, .return_, 1, 0, 0, 0, []),
  (false, 80, .nop, 0, 0, 0, 0, [])]
/-- M.runsProgram -/
def zt_111 : List (Bool × zE) := [
  (false, 0, .aload_n 0, 1, 0, 0, 0, []),
  (false, 1, .invokevirtual 317, 3, 110, 1, 0, [(1395, 0)]),
  (false, 4, .iconst 0, 1, 0, 0, 0, []),
  (false, 5, .istore_n 1, 1, 1, 0, 0, []),
  (false, 6, .aload_n 0, 1, 0, 0, 0, []),
  (false, 7, .aload_n 0, 1, 0, 0, 0, []),
  (false, 8, .getfield 7, 3, 10, 0, 0, [(1003, 7)]),
  (false, 11, .sipush 175, 3, 0, 0, 175, []),
  (false, 14, .iaload, 1, 0, 0, 0, []),
  (false, 15, .ifCond .ne 7, 3, 12, 0, 0, []),
  (false, 18, .iconst 1, 1, 0, 0, 1, []),
  (false, 19, .goto 4, 3, 13, 0, 0, []),
  (false, 22, .iconst 0, 1, 0, 0, 0, []),
  (false, 23, .putstatic 314, 3, 10, 35, 35, [(1038, 314)]),
  (true, 26, .aload_n 0, 1, 0, 0, 0, []),
  (false, 27, .getfield 314, 3, 10, 35, 35, [(1038, 314)]),
  (false, 30, .ifCond .ne 192, 3, 129, 0, 0, []),
  (false, 33, .aload_n 0, 1, 0, 0, 0, []),
  (false, 34, .getfield 311, 3, 10, 33, 33, [(1036, 311)]),
  (false, 37, .sipush 300, 3, 0, 0, 300, []),
  (false, 40, .if_icmp .ge 182, 3, 129, 0, 0, []),
  (false, 43, .iconst 0, 1, 0, 0, 0, []),
  (false, 44, .istore_n 2, 1, 2, 0, 0, []),
  (true, 45, .iload_n 2, 1, 2, 0, 0, []),
  (false, 46, .aload_n 0, 1, 0, 0, 0, []),
  (false, 47, .getfield 7, 3, 10, 0, 0, [(1003, 7)]),
  (false, 50, .sipush 128, 3, 0, 0, 128, []),
  (false, 53, .iload_n 1, 1, 1, 0, 0, []),
  (false, 54, .iadd, 1, 0, 0, 0, []),
  (false, 55, .iaload, 1, 0, 0, 0, []),
  (false, 56, .if_icmp .ge 67, 3, 72, 0, 0, []),
  (false, 59, .aload_n 0, 1, 0, 0, 0, []),
  (false, 60, .getfield 7, 3, 10, 0, 0, [(1003, 7)]),
  (false, 63, .bipush 120, 2, 0, 0, 120, []),
  (false, 65, .iload_n 1, 1, 1, 0, 0, []),
  (false, 66, .iadd, 1, 0, 0, 0, []),
  (false, 67, .iaload, 1, 0, 0, 0, []),
  (false, 68, .iload_n 2, 1, 2, 0, 0, []),
  (false, 69, .iadd, 1, 0, 0, 0, []),
  (false, 70, .istore_n 3, 1, 3, 0, 0, []),
  (false, 71, .aload_n 0, 1, 0, 0, 0, []),
  (false, 72, .aload_n 0, 1, 0, 0, 0, []),
  (false, 73, .getfield 7, 3, 10, 0, 0, [(1003, 7)]),
  (false, 76, .iload_n 3, 1, 3, 0, 0, []),
  (false, 77, .iaload, 1, 0, 0, 0, []),
  (false, 78, .aload_n 0, 1, 0, 0, 0, []),
  (false, 79, .getfield 7, 3, 10, 0, 0, [(1003, 7)]),
  (false, 82, .bipush 24, 2, 0, 0, 24, []),
  (false, 84, .iload_n 3, 1, 3, 0, 0, []),
  (false, 85, .iadd, 1, 0, 0, 0, []),
  (false, 86, .iaload, 1, 0, 0, 0, []),
  (false, 87, .aload_n 0, 1, 0, 0, 0, []),
  (false, 88, .getfield 7, 3, 10, 0, 0, [(1003, 7)]),
  (false, 91, .bipush 48, 2, 0, 0, 48, []),
  (false, 93, .iload_n 3, 1, 3, 0, 0, []),
  (false, 94, .iadd, 1, 0, 0, 0, []),
  (false, 95, .iaload, 1, 0, 0, 0, []),
  (false, 96, .aload_n 0, 1, 0, 0, 0, []),
  (false, 97, .getfield 7, 3, 10, 0, 0, [(1003, 7)]),
  (false, 100, .bipush 72, 2, 0, 0, 72, []),
  (false, 102, .iload_n 3, 1, 3, 0, 0, []),
  (false, 103, .iadd, 1, 0, 0, 0, []),
  (false, 104, .iaload, 1, 0, 0, 0, []),
  (false, 105, .aload_n 0, 1, 0, 0, 0, []),
  (false, 106, .getfield 7, 3, 10, 0, 0, [(1003, 7)]),
  (false, 109, .bipush 96, 2, 0, 0, 96, []),
  (false, 111, .iload_n 3, 1, 3, 0, 0, []),
  (false, 112, .iadd, 1, 0, 0, 0, []),
  (false, 113, .iaload, 1, 0, 0, 0, []),
  (false, 114, .invokevirtual 320, 3, 109, 6, 0, [(1399, 0)]),
  (false, 117, .iinc 2 1, 3, 2, 0, 1, []),
  (false, 120, .goto (-75), 3, 23, 0, 0, []),
  (false, 123, .aload_n 0, 1, 0, 0, 0, []),
  (false, 124, .dup, 1, 0, 0, 0, []),
  (false, 125, .getfield 311, 3, 10, 33, 33, [(1036, 311)]),
  (false, 128, .iconst 1, 1, 0, 0, 1, []),
  (false, 129, .iadd, 1, 0, 0, 0, []),
  (false, 130, .putfield 311, 3, 10, 33, 33, [(1036, 311)]),
  (false, 133, .aload_n 0, 1, 0, 0, 0, []),
  (false, 134, .getfield 7, 3, 10, 0, 0, [(1003, 7)]),
  (false, 137, .sipush 136, 3, 0, 0, 136, []),
  (false, 140, .iload_n 1, 1, 1, 0, 0, []),
  (false, 141, .iadd, 1, 0, 0, 0, []),
  (false, 142, .iaload, 1, 0, 0, 0, []),
  (false, 143, .istore_n 2, 1, 2, 0, 0, []),
  (false, 144, .aload_n 0, 1, 0, 0, 0, []),
  (false, 145, .iload_n 2, 1, 2, 0, 0, []),
  (false, 146, .iconst 2, 1, 0, 0, 2, []),
  (false, 147, .if_icmp .ne 7, 3, 91, 0, 0, []),
  (false, 150, .iconst 1, 1, 0, 0, 1, []),
  (false, 151, .goto 4, 3, 92, 0, 0, []),
  (false, 154, .iconst 0, 1, 0, 0, 0, []),
  (false, 155, .putstatic 314, 3, 10, 35, 35, [(1038, 314)]),
  (false, 158, .iload_n 2, 1, 2, 0, 0, []),
  (false, 159, .ifCond .eq 26, 3, 108, 0, 0, []),
  (false, 162, .iload_n 2, 1, 2, 0, 0, []),
  (false, 163, .iconst 1, 1, 0, 0, 1, []),
  (false, 164, .if_icmp .ne 25, 3, 110, 0, 0, []),
  (false, 167, .aload_n 0, 1, 0, 0, 0, []),
  (false, 168, .getfield 61, 3, 10, 30, 30, [(1033, 61)]),
  (false, 171, .aload_n 0, 1, 0, 0, 0, []),
  (false, 172, .getfield 7, 3, 10, 0, 0, [(1003, 7)]),
  (false, 175, .sipush 160, 3, 0, 0, 160, []),
  (false, 178, .iload_n 1, 1, 1, 0, 0, []),
  (false, 179, .iadd, 1, 0, 0, 0, []),
  (false, 180, .iaload, 1, 0, 0, 0, []),
  (false, 181, .iaload, 1, 0, 0, 0, []),
  (false, 182, .ifCond .eq 7, 3, 110, 0, 0, []),
  (false, 185, .iconst 1, 1, 0, 0, 1, []),
  (false, 186, .goto 4, 3, 111, 0, 0, []),
  (false, 189, .iconst 0, 1, 0, 0, 0, []),
  (false, 190, .istore_n 3, 1, 3, 0, 0, []),
  (false, 191, .iload_n 3, 1, 3, 0, 0, []),
  (false, 192, .ifCond .eq 16, 3, 121, 0, 0, []),
  (false, 195, .aload_n 0, 1, 0, 0, 0, []),
  (false, 196, .getfield 7, 3, 10, 0, 0, [(1003, 7)]),
  (false, 199, .sipush 144, 3, 0, 0, 144, []),
  (false, 202, .iload_n 1, 1, 1, 0, 0, []),
  (false, 203, .iadd, 1, 0, 0, 0, []),
  (false, 204, .iaload, 1, 0, 0, 0, []),
  (false, 205, .goto 13, 3, 127, 0, 0, []),
  (false, 208, .aload_n 0, 1, 0, 0, 0, []),
  (false, 209, .getfield 7, 3, 10, 0, 0, [(1003, 7)]),
  (false, 212, .sipush 152, 3, 0, 0, 152, []),
  (false, 215, .iload_n 1, 1, 1, 0, 0, []),
  (false, 216, .iadd, 1, 0, 0, 0, []),
  (false, 217, .iaload, 1, 0, 0, 0, []),
  (false, 218, .istore_n 1, 1, 1, 0, 0, []),
  (false, 219, .goto (-193), 3, 14, 0, 0, []),
  (false, 222, .return_, 1, 0, 0, 0, []),
  (false, 223, .nop, 0, 0, 0, 0, [])]
/-- M.runsLeft -/
def zt_112 : List (Bool × zE) := [
  (false, 0, .aload_n 0, 1, 0, 0, 0, []),
  (false, 1, .invokevirtual 317, 3, 110, 1, 0, [(1395, 0)]),
  (false, 4, .iconst 0, 1, 0, 0, 0, []),
  (false, 5, .istore_n 1, 1, 1, 0, 0, []),
  (true, 6, .iload_n 1, 1, 1, 0, 0, []),
  (false, 7, .bipush 6, 2, 0, 0, 6, []),
  (false, 9, .if_icmp .ge 37, 3, 27, 0, 0, []),
  (false, 12, .aload_n 0, 1, 0, 0, 0, []),
  (false, 13, .getfield 61, 3, 10, 30, 30, [(1033, 61)]),
  (false, 16, .iload_n 1, 1, 1, 0, 0, []),
  (false, 17, .aload_n 0, 1, 0, 0, 0, []),
  (false, 18, .getfield 189, 3, 10, 12, 12, [(1015, 189)]),
  (false, 21, .iload_n 1, 1, 1, 0, 0, []),
  (false, 22, .ishr, 1, 0, 0, 0, []),
  (false, 23, .iconst 1, 1, 0, 0, 1, []),
  (false, 24, .iand, 1, 0, 0, 0, []),
  (false, 25, .iconst 1, 1, 0, 0, 1, []),
  (false, 26, .if_icmp .ne 12, 3, 23, 0, 0, []),
  (false, 29, .aload_n 0, 1, 0, 0, 0, []),
  (false, 30, .getfield 61, 3, 10, 30, 30, [(1033, 61)]),
  (false, 33, .iload_n 1, 1, 1, 0, 0, []),
  (false, 34, .iaload, 1, 0, 0, 0, []),
  (false, 35, .goto 4, 3, 24, 0, 0, []),
  (false, 38, .iconst 0, 1, 0, 0, 0, []),
  (false, 39, .iastore, 1, 0, 0, 0, []),
  (false, 40, .iinc 1 1, 3, 1, 0, 1, []),
  (false, 43, .goto (-37), 3, 4, 0, 0, []),
  (false, 46, .iconst 0, 1, 0, 0, 0, []),
  (false, 47, .istore_n 1, 1, 1, 0, 0, []),
  (true, 48, .aload_n 0, 1, 0, 0, 0, []),
  (false, 49, .getfield 314, 3, 10, 35, 35, [(1038, 314)]),
  (false, 52, .ifCond .ne 173, 3, 137, 0, 0, []),
  (false, 55, .aload_n 0, 1, 0, 0, 0, []),
  (false, 56, .getfield 311, 3, 10, 33, 33, [(1036, 311)]),
  (false, 59, .sipush 300, 3, 0, 0, 300, []),
  (false, 62, .if_icmp .ge 163, 3, 137, 0, 0, []),
  (false, 65, .iconst 0, 1, 0, 0, 0, []),
  (false, 66, .istore_n 2, 1, 2, 0, 0, []),
  (true, 67, .iload_n 2, 1, 2, 0, 0, []),
  (false, 68, .aload_n 0, 1, 0, 0, 0, []),
  (false, 69, .getfield 43, 3, 10, 23, 23, [(1026, 43)]),
  (false, 72, .iload_n 1, 1, 1, 0, 0, []),
  (false, 73, .iaload, 1, 0, 0, 0, []),
  (false, 74, .if_icmp .ge 60, 3, 84, 0, 0, []),
  (false, 77, .bipush 120, 2, 0, 0, 120, []),
  (false, 79, .iload_n 1, 1, 1, 0, 0, []),
  (false, 80, .imul, 1, 0, 0, 0, []),
  (false, 81, .iconst 5, 1, 0, 0, 5, []),
  (false, 82, .iload_n 2, 1, 2, 0, 0, []),
  (false, 83, .imul, 1, 0, 0, 0, []),
  (false, 84, .iadd, 1, 0, 0, 0, []),
  (false, 85, .istore_n 3, 1, 3, 0, 0, []),
  (false, 86, .aload_n 0, 1, 0, 0, 0, []),
  (false, 87, .aload_n 0, 1, 0, 0, 0, []),
  (false, 88, .getfield 46, 3, 10, 24, 24, [(1027, 46)]),
  (false, 91, .iload_n 3, 1, 3, 0, 0, []),
  (false, 92, .iaload, 1, 0, 0, 0, []),
  (false, 93, .aload_n 0, 1, 0, 0, 0, []),
  (false, 94, .getfield 46, 3, 10, 24, 24, [(1027, 46)]),
  (false, 97, .iload_n 3, 1, 3, 0, 0, []),
  (false, 98, .iconst 1, 1, 0, 0, 1, []),
  (false, 99, .iadd, 1, 0, 0, 0, []),
  (false, 100, .iaload, 1, 0, 0, 0, []),
  (false, 101, .aload_n 0, 1, 0, 0, 0, []),
  (false, 102, .getfield 46, 3, 10, 24, 24, [(1027, 46)]),
  (false, 105, .iload_n 3, 1, 3, 0, 0, []),
  (false, 106, .iconst 2, 1, 0, 0, 2, []),
  (false, 107, .iadd, 1, 0, 0, 0, []),
  (false, 108, .iaload, 1, 0, 0, 0, []),
  (false, 109, .aload_n 0, 1, 0, 0, 0, []),
  (false, 110, .getfield 46, 3, 10, 24, 24, [(1027, 46)]),
  (false, 113, .iload_n 3, 1, 3, 0, 0, []),
  (false, 114, .iconst 3, 1, 0, 0, 3, []),
  (false, 115, .iadd, 1, 0, 0, 0, []),
  (false, 116, .iaload, 1, 0, 0, 0, []),
  (false, 117, .aload_n 0, 1, 0, 0, 0, []),
  (false, 118, .getfield 46, 3, 10, 24, 24, [(1027, 46)]),
  (false, 121, .iload_n 3, 1, 3, 0, 0, []),
  (false, 122, .iconst 4, 1, 0, 0, 4, []),
  (false, 123, .iadd, 1, 0, 0, 0, []),
  (false, 124, .iaload, 1, 0, 0, 0, []),
  (false, 125, .invokevirtual 320, 3, 109, 6, 0, [(1399, 0)]),
  (false, 128, .iinc 2 1, 3, 2, 0, 1, []),
  (false, 131, .goto (-64), 3, 38, 0, 0, []),
  (false, 134, .aload_n 0, 1, 0, 0, 0, []),
  (false, 135, .dup, 1, 0, 0, 0, []),
  (false, 136, .getfield 311, 3, 10, 33, 33, [(1036, 311)]),
  (false, 139, .iconst 1, 1, 0, 0, 1, []),
  (false, 140, .iadd, 1, 0, 0, 0, []),
  (false, 141, .putfield 311, 3, 10, 33, 33, [(1036, 311)]),
  (false, 144, .aload_n 0, 1, 0, 0, 0, []),
  (false, 145, .aload_n 0, 1, 0, 0, 0, []),
  (false, 146, .getfield 31, 3, 10, 19, 19, [(1022, 31)]),
  (false, 149, .iload_n 1, 1, 1, 0, 0, []),
  (false, 150, .iaload, 1, 0, 0, 0, []),
  (false, 151, .iconst 2, 1, 0, 0, 2, []),
  (false, 152, .if_icmp .ne 7, 3, 99, 0, 0, []),
  (false, 155, .iconst 1, 1, 0, 0, 1, []),
  (false, 156, .goto 4, 3, 100, 0, 0, []),
  (false, 159, .iconst 0, 1, 0, 0, 0, []),
  (false, 160, .putstatic 314, 3, 10, 35, 35, [(1038, 314)]),
  (false, 163, .aload_n 0, 1, 0, 0, 0, []),
  (false, 164, .getfield 31, 3, 10, 19, 19, [(1022, 31)]),
  (false, 167, .iload_n 1, 1, 1, 0, 0, []),
  (false, 168, .iaload, 1, 0, 0, 0, []),
  (false, 169, .ifCond .eq 27, 3, 120, 0, 0, []),
  (false, 172, .aload_n 0, 1, 0, 0, 0, []),
  (false, 173, .getfield 31, 3, 10, 19, 19, [(1022, 31)]),
  (false, 176, .iload_n 1, 1, 1, 0, 0, []),
  (false, 177, .iaload, 1, 0, 0, 0, []),
  (false, 178, .iconst 1, 1, 0, 0, 1, []),
  (false, 179, .if_icmp .ne 21, 3, 122, 0, 0, []),
  (false, 182, .aload_n 0, 1, 0, 0, 0, []),
  (false, 183, .getfield 61, 3, 10, 30, 30, [(1033, 61)]),
  (false, 186, .aload_n 0, 1, 0, 0, 0, []),
  (false, 187, .getfield 40, 3, 10, 22, 22, [(1025, 40)]),
  (false, 190, .iload_n 1, 1, 1, 0, 0, []),
  (false, 191, .iaload, 1, 0, 0, 0, []),
  (false, 192, .iaload, 1, 0, 0, 0, []),
  (false, 193, .ifCond .eq 7, 3, 122, 0, 0, []),
  (false, 196, .iconst 1, 1, 0, 0, 1, []),
  (false, 197, .goto 4, 3, 123, 0, 0, []),
  (false, 200, .iconst 0, 1, 0, 0, 0, []),
  (false, 201, .istore_n 2, 1, 2, 0, 0, []),
  (false, 202, .iload_n 2, 1, 2, 0, 0, []),
  (false, 203, .ifCond .eq 12, 3, 131, 0, 0, []),
  (false, 206, .aload_n 0, 1, 0, 0, 0, []),
  (false, 207, .getfield 34, 3, 10, 20, 20, [(1023, 34)]),
  (false, 210, .iload_n 1, 1, 1, 0, 0, []),
  (false, 211, .iaload, 1, 0, 0, 0, []),
  (false, 212, .goto 9, 3, 135, 0, 0, []),
  (false, 215, .aload_n 0, 1, 0, 0, 0, []),
  (false, 216, .getfield 37, 3, 10, 21, 21, [(1024, 37)]),
  (false, 219, .iload_n 1, 1, 1, 0, 0, []),
  (false, 220, .iaload, 1, 0, 0, 0, []),
  (false, 221, .istore_n 1, 1, 1, 0, 0, []),
  (false, 222, .goto (-174), 3, 29, 0, 0, []),
  (false, 225, .return_, 1, 0, 0, 0, []),
  (false, 226, .nop, 0, 0, 0, 0, [])]
/-- M.isLatest -/
def zt_113 : List (Bool × zE) := [
  (false, 0, .aload_n 0, 1, 0, 0, 0, []),
  (false, 1, .iconst 1, 1, 0, 0, 1, []),
  (false, 2, .putstatic 186, 3, 10, 36, 36, [(1039, 186)]),
  (false, 5, .aload_n 0, 1, 0, 0, 0, []),
  (false, 6, .getfield 64, 3, 10, 37, 37, [(1040, 64)]),
  (false, 9, .iconst 0, 1, 0, 0, 0, []),
  (false, 10, .aload_n 0, 1, 0, 0, 0, []),
  (false, 11, .getfield 302, 3, 10, 31, 31, [(1034, 302)]),
  (false, 14, .iastore, 1, 0, 0, 0, []),
  (false, 15, .aload_n 0, 1, 0, 0, 0, []),
  (false, 16, .getfield 64, 3, 10, 37, 37, [(1040, 64)]),
  (false, 19, .iconst 1, 1, 0, 0, 1, []),
  (false, 20, .aload_n 0, 1, 0, 0, 0, []),
  (false, 21, .getfield 305, 3, 10, 32, 32, [(1035, 305)]),
  (false, 24, .iastore, 1, 0, 0, 0, []),
  (false, 25, .aload_n 0, 1, 0, 0, 0, []),
  (false, 26, .getfield 64, 3, 10, 37, 37, [(1040, 64)]),
  (false, 29, .iconst 2, 1, 0, 0, 2, []),
  (false, 30, .aload_n 0, 1, 0, 0, 0, []),
  (false, 31, .getfield 311, 3, 10, 33, 33, [(1036, 311)]),
  (false, 34, .iastore, 1, 0, 0, 0, []),
  (false, 35, .aload_n 0, 1, 0, 0, 0, []),
  (false, 36, .getfield 64, 3, 10, 37, 37, [(1040, 64)]),
  (false, 39, .iconst 3, 1, 0, 0, 3, []),
  (false, 40, .aload_n 0, 1, 0, 0, 0, []),
  (false, 41, .getfield 314, 3, 10, 35, 35, [(1038, 314)]),
  (false, 44, .ifCond .eq 7, 3, 29, 0, 0, []),
  (false, 47, .iconst 1, 1, 0, 0, 1, []),
  (false, 48, .goto 4, 3, 30, 0, 0, []),
  (false, 51, .iconst 0, 1, 0, 0, 0, []),
  (false, 52, .iastore, 1, 0, 0, 0, []),
  (false, 53, .iconst 0, 1, 0, 0, 0, []),
  (false, 54, .istore_n 1, 1, 1, 0, 0, []),
  (true, 55, .iload_n 1, 1, 1, 0, 0, []),
  (false, 56, .bipush 6, 2, 0, 0, 6, []),
  (false, 58, .if_icmp .ge 23, 3, 48, 0, 0, []),
  (false, 61, .aload_n 0, 1, 0, 0, 0, []),
  (false, 62, .getfield 64, 3, 10, 37, 37, [(1040, 64)]),
  (false, 65, .iconst 4, 1, 0, 0, 4, []),
  (false, 66, .iload_n 1, 1, 1, 0, 0, []),
  (false, 67, .iadd, 1, 0, 0, 0, []),
  (false, 68, .aload_n 0, 1, 0, 0, 0, []),
  (false, 69, .getfield 61, 3, 10, 30, 30, [(1033, 61)]),
  (false, 72, .iload_n 1, 1, 1, 0, 0, []),
  (false, 73, .iaload, 1, 0, 0, 0, []),
  (false, 74, .iastore, 1, 0, 0, 0, []),
  (false, 75, .iinc 1 1, 3, 1, 0, 1, []),
  (false, 78, .goto (-23), 3, 33, 0, 0, []),
  (false, 81, .aload_n 0, 1, 0, 0, 0, []),
  (false, 82, .getfield 314, 3, 10, 35, 35, [(1038, 314)]),
  (false, 85, .ifCond .eq 10, 3, 54, 0, 0, []),
  (false, 88, .aload_n 0, 1, 0, 0, 0, []),
  (false, 89, .getfield 308, 3, 10, 34, 34, [(1037, 308)]),
  (false, 92, .goto 5, 3, 55, 0, 0, []),
  (false, 95, .bipush (-2), 2, 0, 0, (-2), []),
  (false, 97, .ireturn, 1, 0, 0, 0, []),
  (false, 98, .nop, 0, 0, 0, 0, [])]
/-- M.drawsBegins -/
def zt_114 : List (Bool × zE) := [
  (false, 0, .iconst 0, 1, 0, 0, 0, []),
  (false, 1, .istore_n 1, 1, 1, 0, 0, []),
  (true, 2, .iload_n 1, 1, 1, 0, 0, []),
  (false, 3, .bipush 6, 2, 0, 0, 6, []),
  (false, 5, .if_icmp .ge 21, 3, 15, 0, 0, []),
  (false, 8, .aload_n 0, 1, 0, 0, 0, []),
  (false, 9, .getfield 67, 3, 10, 38, 38, [(1041, 67)]),
  (false, 12, .iload_n 1, 1, 1, 0, 0, []),
  (false, 13, .aload_n 0, 1, 0, 0, 0, []),
  (false, 14, .getfield 58, 3, 10, 29, 29, [(1032, 58)]),
  (false, 17, .iload_n 1, 1, 1, 0, 0, []),
  (false, 18, .iaload, 1, 0, 0, 0, []),
  (false, 19, .iastore, 1, 0, 0, 0, []),
  (false, 20, .iinc 1 1, 3, 1, 0, 1, []),
  (false, 23, .goto (-21), 3, 2, 0, 0, []),
  (false, 26, .return_, 1, 0, 0, 0, []),
  (false, 27, .nop, 0, 0, 0, 0, [])]
/-- M.run -/
def zt_115 : List (Bool × zE) := [
  (false, 0, .aload_n 0, 1, 0, 0, 0, []),
  (false, 1, .invokevirtual 324, 3, 114, 1, 0, [(1387, 0)]),
  (false, 4, .aload_n 0, 1, 0, 0, 0, []),
  (false, 5, .invokevirtual 327, 3, 111, 1, 0, [(1391, 0)]),
  (false, 8, .aload_n 0, 1, 0, 0, 0, []),
  (false, 9, .invokevirtual 330, 3, 113, 1, 1, [(1407, 0)]),
  (false, 12, .ireturn, 1, 0, 0, 0, []),
  (false, 13, .nop, 0, 0, 0, 0, [])]
/-- M.runLeft -/
def zt_116 : List (Bool × zE) := [
  (false, 0, .aload_n 0, 1, 0, 0, 0, []),
  (false, 1, .invokevirtual 241, 3, 81, 1, 0, [(1227, 0)]),
  (false, 4, .aload_n 0, 1, 0, 0, 0, []),
  (false, 5, .getfield 206, 3, 10, 15, 15, [(1018, 206)]),
  (false, 8, .ifCond .ne 6, 3, 7, 0, 0, []),
  (false, 11, .bipush (-4), 2, 0, 0, (-4), []),
  (false, 13, .ireturn, 1, 0, 0, 0, []),
  (false, 14, .aload_n 0, 1, 0, 0, 0, []),
  (false, 15, .invokevirtual 324, 3, 114, 1, 0, [(1387, 0)]),
  (false, 18, .aload_n 0, 1, 0, 0, 0, []),
  (false, 19, .invokevirtual 333, 3, 112, 1, 0, [(1415, 0)]),
  (false, 22, .aload_n 0, 1, 0, 0, 0, []),
  (false, 23, .invokevirtual 330, 3, 113, 1, 1, [(1407, 0)]),
  (false, 26, .ireturn, 1, 0, 0, 0, []),
  (false, 27, .nop, 0, 0, 0, 0, [])]
/-- M.told -/
def zt_117 : List (Bool × zE) := [
  (false, 0, .iload_n 1, 1, 1, 0, 0, []),
  (false, 1, .i2l, 1, 0, 0, 0, []),
  (false, 2, .lconst 0, 1, 0, 0, 0, []),
  (false, 3, .ldc2_w 336, 3, 1423, 0, 3, []),
  (false, 6, .invokestatic 91, 3, 50, 3, 1, [(1147, 0)]),
  (false, 9, .ifCond .ne 19, 3, 14, 0, 0, []),
  (false, 12, .iload_n 1, 1, 1, 0, 0, []),
  (false, 13, .i2l, 1, 0, 0, 0, []),
  (false, 14, .ldc2_w 338, 3, 1424, 0, 10, []),
  (false, 17, .ldc2_w 340, 3, 1425, 0, 15, []),
  (false, 20, .invokestatic 91, 3, 50, 3, 1, [(1147, 0)]),
  (false, 23, .ifCond .ne 5, 3, 14, 0, 0, []),
  (false, 26, .iconst (-1), 1, 0, 0, (-1), []),
  (false, 27, .ireturn, 1, 0, 0, 0, []),
  (false, 28, .aload_n 0, 1, 0, 0, 0, []),
  (false, 29, .getfield 186, 3, 10, 36, 36, [(1039, 186)]),
  (false, 32, .ifCond .ne 14, 3, 23, 0, 0, []),
  (false, 35, .iload_n 1, 1, 1, 0, 0, []),
  (false, 36, .ifCond .ne 7, 3, 21, 0, 0, []),
  (false, 39, .iconst 0, 1, 0, 0, 0, []),
  (false, 40, .goto 5, 3, 22, 0, 0, []),
  (false, 43, .bipush (-4), 2, 0, 0, (-4), []),
  (false, 45, .ireturn, 1, 0, 0, 0, []),
  (false, 46, .aload_n 0, 1, 0, 0, 0, []),
  (false, 47, .getfield 64, 3, 10, 37, 37, [(1040, 64)]),
  (false, 50, .iload_n 1, 1, 1, 0, 0, []),
  (false, 51, .iconst 4, 1, 0, 0, 4, []),
  (false, 52, .if_icmp .ge 7, 3, 30, 0, 0, []),
  (false, 55, .iload_n 1, 1, 1, 0, 0, []),
  (false, 56, .goto 7, 3, 33, 0, 0, []),
  (false, 59, .iload_n 1, 1, 1, 0, 0, []),
  (false, 60, .bipush 6, 2, 0, 0, 6, []),
  (false, 62, .isub, 1, 0, 0, 0, []),
  (false, 63, .iaload, 1, 0, 0, 0, []),
  (false, 64, .ireturn, 1, 0, 0, 0, []),
  (false, 65, .nop, 0, 0, 0, 0, [])]
/-- M.isAlikeEnd -/
def zt_118 : List (Bool × zE) := [
  (false, 0, .aload_n 0, 1, 0, 0, 0, []),
  (false, 1, .getfield 70, 3, 10, 39, 39, [(1042, 70)]),
  (false, 4, .bipush 6, 2, 0, 0, 6, []),
  (false, 6, .iaload, 1, 0, 0, 0, []),
  (false, 7, .aload_n 0, 1, 0, 0, 0, []),
  (false, 8, .getfield 302, 3, 10, 31, 31, [(1034, 302)]),
  (false, 11, .if_icmp .ne 29, 3, 20, 0, 0, []),
  (false, 14, .aload_n 0, 1, 0, 0, 0, []),
  (false, 15, .getfield 70, 3, 10, 39, 39, [(1042, 70)]),
  (false, 18, .bipush 7, 2, 0, 0, 7, []),
  (false, 20, .iaload, 1, 0, 0, 0, []),
  (false, 21, .aload_n 0, 1, 0, 0, 0, []),
  (false, 22, .getfield 314, 3, 10, 35, 35, [(1038, 314)]),
  (false, 25, .ifCond .eq 7, 3, 16, 0, 0, []),
  (false, 28, .iconst 1, 1, 0, 0, 1, []),
  (false, 29, .goto 4, 3, 17, 0, 0, []),
  (false, 32, .iconst 0, 1, 0, 0, 0, []),
  (false, 33, .if_icmp .ne 7, 3, 20, 0, 0, []),
  (false, 36, .iconst 1, 1, 0, 0, 1, []),
  (false, 37, .goto 4, 3, 21, 0, 0, []),
  (false, 40, .iconst 0, 1, 0, 0, 0, []),
  (false, 41, .istore_n 1, 1, 1, 0, 0, []),
  (false, 42, .iconst 0, 1, 0, 0, 0, []),
  (false, 43, .istore_n 2, 1, 2, 0, 0, []),
  (true, 44, .iload_n 2, 1, 2, 0, 0, []),
  (false, 45, .bipush 6, 2, 0, 0, 6, []),
  (false, 47, .if_icmp .ge 45, 3, 51, 0, 0, []),
  (false, 50, .iload_n 1, 1, 1, 0, 0, []),
  (false, 51, .ifCond .eq 33, 3, 47, 0, 0, []),
  (false, 54, .aload_n 0, 1, 0, 0, 0, []),
  (false, 55, .getfield 189, 3, 10, 12, 12, [(1015, 189)]),
  (false, 58, .iload_n 2, 1, 2, 0, 0, []),
  (false, 59, .ishr, 1, 0, 0, 0, []),
  (false, 60, .iconst 1, 1, 0, 0, 1, []),
  (false, 61, .iand, 1, 0, 0, 0, []),
  (false, 62, .ifCond .eq 18, 3, 45, 0, 0, []),
  (false, 65, .aload_n 0, 1, 0, 0, 0, []),
  (false, 66, .getfield 70, 3, 10, 39, 39, [(1042, 70)]),
  (false, 69, .iload_n 2, 1, 2, 0, 0, []),
  (false, 70, .iaload, 1, 0, 0, 0, []),
  (false, 71, .aload_n 0, 1, 0, 0, 0, []),
  (false, 72, .getfield 61, 3, 10, 30, 30, [(1033, 61)]),
  (false, 75, .iload_n 2, 1, 2, 0, 0, []),
  (false, 76, .iaload, 1, 0, 0, 0, []),
  (false, 77, .if_icmp .ne 7, 3, 47, 0, 0, []),
  (false, 80, .iconst 1, 1, 0, 0, 1, []),
  (false, 81, .goto 4, 3, 48, 0, 0, []),
  (false, 84, .iconst 0, 1, 0, 0, 0, []),
  (false, 85, .istore_n 1, 1, 1, 0, 0, []),
  (false, 86, .iinc 2 1, 3, 2, 0, 1, []),
  (false, 89, .goto (-45), 3, 24, 0, 0, []),
  (false, 92, .iload_n 1, 1, 1, 0, 0, []),
  (false, 93, .freturn, 1, 0, 0, 0, []),
  (false, 94, .nop, 0, 0, 0, 0, [])]
/-- M.agree -/
def zt_119 : List (Bool × zE) := [
  (false, 0, .iload_n 2, 1, 2, 0, 0, []),
  (false, 1, .i2l, 1, 0, 0, 0, []),
  (false, 2, .lconst 1, 1, 0, 0, 1, []),
  (false, 3, .ldc2_w 342, 3, 1430, 0, 50, []),
  (false, 6, .invokestatic 91, 3, 50, 3, 1, [(1147, 0)]),
  (false, 9, .ifCond .eq 15, 3, 12, 0, 0, []),
  (false, 12, .iload_n 3, 1, 3, 0, 0, []),
  (false, 13, .i2l, 1, 0, 0, 0, []),
  (false, 14, .lconst 0, 1, 0, 0, 0, []),
  (false, 15, .ldc2_w 162, 3, 1205, 0, 2, []),
  (false, 18, .invokestatic 91, 3, 50, 3, 1, [(1147, 0)]),
  (false, 21, .ifCond .ne 5, 3, 14, 0, 0, []),
  (false, 24, .iconst (-1), 1, 0, 0, (-1), []),
  (false, 25, .ireturn, 1, 0, 0, 0, []),
  (false, 26, .aload_n 0, 1, 0, 0, 0, []),
  (false, 27, .invokevirtual 241, 3, 81, 1, 0, [(1227, 0)]),
  (false, 30, .aload_n 0, 1, 0, 0, 0, []),
  (false, 31, .getfield 206, 3, 10, 15, 15, [(1018, 206)]),
  (false, 34, .ifCond .ne 6, 3, 21, 0, 0, []),
  (false, 37, .bipush (-4), 2, 0, 0, (-4), []),
  (false, 39, .ireturn, 1, 0, 0, 0, []),
  (false, 40, .iload_n 1, 1, 1, 0, 0, []),
  (false, 41, .istore 4, 2, 4, 0, 0, []),
  (false, 43, .iconst 0, 1, 0, 0, 0, []),
  (false, 44, .istore 5, 2, 5, 0, 0, []),
  (false, 46, .iconst 0, 1, 0, 0, 0, []),
  (false, 47, .istore 6, 2, 6, 0, 0, []),
  (false, 49, .iconst 0, 1, 0, 0, 0, []),
  (false, 50, .istore 7, 2, 7, 0, 0, []),
  (false, 52, .iconst 0, 1, 0, 0, 0, []),
  (false, 53, .istore 8, 2, 8, 0, 0, []),
  (true, 55, .iload 8, 2, 8, 0, 0, []),
  (false, 57, .iload_n 2, 1, 2, 0, 0, []),
  (false, 58, .if_icmp .ge 176, 3, 123, 0, 0, []),
  (false, 61, .iconst 0, 1, 0, 0, 0, []),
  (false, 62, .istore 9, 2, 9, 0, 0, []),
  (true, 64, .iload 9, 2, 9, 0, 0, []),
  (false, 66, .bipush 6, 2, 0, 0, 6, []),
  (false, 68, .if_icmp .ge 40, 3, 58, 0, 0, []),
  (false, 71, .iload 4, 2, 4, 0, 0, []),
  (false, 73, .ldc_w 344, 3, 1431, 0, 1103515245, []),
  (false, 76, .fmul, 1, 0, 0, 0, []),
  (false, 77, .sipush 12345, 3, 0, 0, 12345, []),
  (false, 80, .fadd, 1, 0, 0, 0, []),
  (false, 81, .istore 4, 2, 4, 0, 0, []),
  (false, 83, .aload_n 0, 1, 0, 0, 0, []),
  (false, 84, .getfield 67, 3, 10, 38, 38, [(1041, 67)]),
  (false, 87, .iload 9, 2, 9, 0, 0, []),
  (false, 89, .iload 4, 2, 4, 0, 0, []),
  (false, 91, .bipush 16, 2, 0, 0, 16, []),
  (false, 93, .ishr, 1, 0, 0, 0, []),
  (false, 94, .sipush 32767, 3, 0, 0, 32767, []),
  (false, 97, .iand, 1, 0, 0, 0, []),
  (false, 98, .bipush 12, 2, 0, 0, 12, []),
  (false, 100, .irem, 1, 0, 0, 0, []),
  (false, 101, .iastore, 1, 0, 0, 0, []),
  (false, 102, .iinc 9 1, 3, 9, 0, 1, []),
  (false, 105, .goto (-41), 3, 36, 0, 0, []),
  (false, 108, .aload_n 0, 1, 0, 0, 0, []),
  (false, 109, .invokevirtual 327, 3, 111, 1, 0, [(1391, 0)]),
  (false, 112, .iload 6, 2, 6, 0, 0, []),
  (false, 114, .aload_n 0, 1, 0, 0, 0, []),
  (false, 115, .getfield 314, 3, 10, 35, 35, [(1038, 314)]),
  (false, 118, .ifCond .eq 7, 3, 66, 0, 0, []),
  (false, 121, .iconst 1, 1, 0, 0, 1, []),
  (false, 122, .goto 4, 3, 67, 0, 0, []),
  (false, 125, .iconst 0, 1, 0, 0, 0, []),
  (false, 126, .iadd, 1, 0, 0, 0, []),
  (false, 127, .istore 6, 2, 6, 0, 0, []),
  (false, 129, .iload 7, 2, 7, 0, 0, []),
  (false, 131, .aload_n 0, 1, 0, 0, 0, []),
  (false, 132, .getfield 308, 3, 10, 34, 34, [(1037, 308)]),
  (false, 135, .iadd, 1, 0, 0, 0, []),
  (false, 136, .istore 7, 2, 7, 0, 0, []),
  (false, 138, .iconst 0, 1, 0, 0, 0, []),
  (false, 139, .istore 9, 2, 9, 0, 0, []),
  (true, 141, .iload 9, 2, 9, 0, 0, []),
  (false, 143, .bipush 6, 2, 0, 0, 6, []),
  (false, 145, .if_icmp .ge 23, 3, 89, 0, 0, []),
  (false, 148, .aload_n 0, 1, 0, 0, 0, []),
  (false, 149, .getfield 70, 3, 10, 39, 39, [(1042, 70)]),
  (false, 152, .iload 9, 2, 9, 0, 0, []),
  (false, 154, .aload_n 0, 1, 0, 0, 0, []),
  (false, 155, .getfield 61, 3, 10, 30, 30, [(1033, 61)]),
  (false, 158, .iload 9, 2, 9, 0, 0, []),
  (false, 160, .iaload, 1, 0, 0, 0, []),
  (false, 161, .iastore, 1, 0, 0, 0, []),
  (false, 162, .iinc 9 1, 3, 9, 0, 1, []),
  (false, 165, .goto (-24), 3, 76, 0, 0, []),
  (false, 168, .aload_n 0, 1, 0, 0, 0, []),
  (false, 169, .getfield 70, 3, 10, 39, 39, [(1042, 70)]),
  (false, 172, .bipush 6, 2, 0, 0, 6, []),
  (false, 174, .aload_n 0, 1, 0, 0, 0, []),
  (false, 175, .getfield 302, 3, 10, 31, 31, [(1034, 302)]),
  (false, 178, .iastore, 1, 0, 0, 0, []),
  (false, 179, .aload_n 0, 1, 0, 0, 0, []),
  (false, 180, .getfield 70, 3, 10, 39, 39, [(1042, 70)]),
  (false, 183, .bipush 7, 2, 0, 0, 7, []),
  (false, 185, .aload_n 0, 1, 0, 0, 0, []),
  (false, 186, .getfield 314, 3, 10, 35, 35, [(1038, 314)]),
  (false, 189, .ifCond .eq 7, 3, 103, 0, 0, []),
  (false, 192, .iconst 1, 1, 0, 0, 1, []),
  (false, 193, .goto 4, 3, 104, 0, 0, []),
  (false, 196, .iconst 0, 1, 0, 0, 0, []),
  (false, 197, .iastore, 1, 0, 0, 0, []),
  (false, 198, .aload_n 0, 1, 0, 0, 0, []),
  (false, 199, .invokevirtual 333, 3, 112, 1, 0, [(1415, 0)]),
  (false, 202, .iload 7, 2, 7, 0, 0, []),
  (false, 204, .aload_n 0, 1, 0, 0, 0, []),
  (false, 205, .getfield 308, 3, 10, 34, 34, [(1037, 308)]),
  (false, 208, .isub, 1, 0, 0, 0, []),
  (false, 209, .istore 7, 2, 7, 0, 0, []),
  (false, 211, .iload 5, 2, 5, 0, 0, []),
  (false, 213, .aload_n 0, 1, 0, 0, 0, []),
  (false, 214, .invokevirtual 345, 3, 118, 1, 1, [(1432, 0)]),
  (false, 217, .ifCond .eq 7, 3, 118, 0, 0, []),
  (false, 220, .iconst 1, 1, 0, 0, 1, []),
  (false, 221, .goto 4, 3, 119, 0, 0, []),
  (false, 224, .iconst 0, 1, 0, 0, 0, []),
  (false, 225, .iadd, 1, 0, 0, 0, []),
  (false, 226, .istore 5, 2, 5, 0, 0, []),
  (false, 228, .iinc 8 1, 3, 8, 0, 1, []),
  (false, 231, .goto (-176), 3, 31, 0, 0, []),
  (false, 234, .iload_n 3, 1, 3, 0, 0, []),
  (false, 235, .ifCond .ne 8, 3, 127, 0, 0, []),
  (false, 238, .iload 5, 2, 5, 0, 0, []),
  (false, 240, .goto 15, 3, 133, 0, 0, []),
  (false, 243, .iload_n 3, 1, 3, 0, 0, []),
  (false, 244, .iconst 1, 1, 0, 0, 1, []),
  (false, 245, .if_icmp .ne 8, 3, 132, 0, 0, []),
  (false, 248, .iload 6, 2, 6, 0, 0, []),
  (false, 250, .goto 5, 3, 133, 0, 0, []),
  (false, 253, .iload 7, 2, 7, 0, 0, []),
  (false, 255, .ireturn, 1, 0, 0, 0, []),
  (false, 256, .nop, 0, 0, 0, 0, [])]
/-- M.puts -/
def zt_120 : List (Bool × zE) := [
  (false, 0, .iload_n 1, 1, 1, 0, 0, []),
  (false, 1, .ifCond .ne 5, 3, 4, 0, 0, []),
  (false, 4, .iconst (-1), 1, 0, 0, (-1), []),
  (false, 5, .ireturn, 1, 0, 0, 0, []),
  (false, 6, .aload_n 0, 1, 0, 0, 0, []),
  (false, 7, .getfield 7, 3, 10, 0, 0, [(1003, 7)]),
  (false, 10, .iload_n 2, 1, 2, 0, 0, []),
  (false, 11, .iaload, 1, 0, 0, 0, []),
  (false, 12, .istore 4, 2, 4, 0, 0, []),
  (false, 14, .aload_n 0, 1, 0, 0, 0, []),
  (false, 15, .getfield 7, 3, 10, 0, 0, [(1003, 7)]),
  (false, 18, .iload_n 2, 1, 2, 0, 0, []),
  (false, 19, .iload_n 3, 1, 3, 0, 0, []),
  (false, 20, .iastore, 1, 0, 0, 0, []),
  (false, 21, .aload_n 0, 1, 0, 0, 0, []),
  (false, 22, .iconst 0, 1, 0, 0, 0, []),
  (false, 23, .putstatic 182, 3, 10, 14, 14, [(1017, 182)]),
  (false, 26, .iload 4, 2, 4, 0, 0, []),
  (false, 28, .ireturn, 1, 0, 0, 0, []),
  (false, 29, .nop, 0, 0, 0, 0, [])]
/-- M.isOperand -/
def zt_121 : List (Bool × zE) := [
  (false, 0, .iload_n 0, 1, 0, 0, 0, []),
  (false, 1, .i2l, 1, 0, 0, 0, []),
  (false, 2, .lconst 0, 1, 0, 0, 0, []),
  (false, 3, .ldc2_w 267, 3, 1342, 0, 99, []),
  (false, 6, .invokestatic 91, 3, 50, 3, 1, [(1147, 0)]),
  (false, 9, .ifCond .ne 17, 3, 12, 0, 0, []),
  (false, 12, .iload_n 0, 1, 0, 0, 0, []),
  (false, 13, .i2l, 1, 0, 0, 0, []),
  (false, 14, .ldc2_w 348, 3, 1443, 0, 100, []),
  (false, 17, .ldc2_w 350, 3, 1444, 0, 105, []),
  (false, 20, .invokestatic 91, 3, 50, 3, 1, [(1147, 0)]),
  (false, 23, .ifCond .eq 7, 3, 14, 0, 0, []),
  (false, 26, .iconst 1, 1, 0, 0, 1, []),
  (false, 27, .goto 4, 3, 15, 0, 0, []),
  (false, 30, .iconst 0, 1, 0, 0, 0, []),
  (false, 31, .freturn, 1, 0, 0, 0, []),
  (false, 32, .nop, 0, 0, 0, 0, [])]
/-- M.alter -/
def zt_122 : List (Bool × zE) := [
  (false, 0, .aload_n 0, 1, 0, 0, 0, []),
  (false, 1, .iload_n 1, 1, 1, 0, 0, []),
  (false, 2, .invokevirtual 259, 3, 84, 2, 1, [(1329, 0)]),
  (false, 5, .ifCond .eq 30, 3, 19, 0, 0, []),
  (false, 8, .iload_n 2, 1, 2, 0, 0, []),
  (false, 9, .i2l, 1, 0, 0, 0, []),
  (false, 10, .lconst 1, 1, 0, 0, 1, []),
  (false, 11, .ldc2_w 164, 3, 1206, 0, 4, []),
  (false, 14, .invokestatic 91, 3, 50, 3, 1, [(1147, 0)]),
  (false, 17, .ifCond .eq 18, 3, 19, 0, 0, []),
  (false, 20, .aload_n 0, 1, 0, 0, 0, []),
  (false, 21, .getfield 7, 3, 10, 0, 0, [(1003, 7)]),
  (false, 24, .iload_n 1, 1, 1, 0, 0, []),
  (false, 25, .iaload, 1, 0, 0, 0, []),
  (false, 26, .iconst 1, 1, 0, 0, 1, []),
  (false, 27, .if_icmp .ne 10, 3, 21, 0, 0, []),
  (false, 30, .iload_n 2, 1, 2, 0, 0, []),
  (false, 31, .iconst 2, 1, 0, 0, 2, []),
  (false, 32, .if_icmp .eq 5, 3, 21, 0, 0, []),
  (false, 35, .iconst (-1), 1, 0, 0, (-1), []),
  (false, 36, .ireturn, 1, 0, 0, 0, []),
  (false, 37, .iload_n 2, 1, 2, 0, 0, []),
  (false, 38, .iconst 1, 1, 0, 0, 1, []),
  (false, 39, .if_icmp .ne 10, 3, 27, 0, 0, []),
  (false, 42, .iload_n 3, 1, 3, 0, 0, []),
  (false, 43, .invokestatic 262, 3, 85, 1, 1, [(1337, 0)]),
  (false, 46, .goto 24, 3, 38, 0, 0, []),
  (false, 49, .iload_n 2, 1, 2, 0, 0, []),
  (false, 50, .iconst 3, 1, 0, 0, 3, []),
  (false, 51, .if_icmp .ne 15, 3, 36, 0, 0, []),
  (false, 54, .iload_n 3, 1, 3, 0, 0, []),
  (false, 55, .i2l, 1, 0, 0, 0, []),
  (false, 56, .lconst 0, 1, 0, 0, 0, []),
  (false, 57, .ldc2_w 336, 3, 1423, 0, 3, []),
  (false, 60, .invokestatic 91, 3, 50, 3, 1, [(1147, 0)]),
  (false, 63, .goto 7, 3, 38, 0, 0, []),
  (false, 66, .iload_n 3, 1, 3, 0, 0, []),
  (false, 67, .invokestatic 352, 3, 121, 1, 1, [(1440, 0)]),
  (false, 70, .istore 4, 2, 4, 0, 0, []),
  (false, 72, .aload_n 0, 1, 0, 0, 0, []),
  (false, 73, .iload 4, 2, 4, 0, 0, []),
  (false, 75, .bipush 24, 2, 0, 0, 24, []),
  (false, 77, .iload_n 2, 1, 2, 0, 0, []),
  (false, 78, .imul, 1, 0, 0, 0, []),
  (false, 79, .iload_n 1, 1, 1, 0, 0, []),
  (false, 80, .iadd, 1, 0, 0, 0, []),
  (false, 81, .iload_n 3, 1, 3, 0, 0, []),
  (false, 82, .invokevirtual 355, 3, 120, 4, 1, [(1445, 0)]),
  (false, 85, .ireturn, 1, 0, 0, 0, []),
  (false, 86, .nop, 0, 0, 0, 0, [])]
/-- M.lead -/
def zt_123 : List (Bool × zE) := [
  (false, 0, .aload_n 0, 1, 0, 0, 0, []),
  (false, 1, .iload_n 1, 1, 1, 0, 0, []),
  (false, 2, .invokevirtual 256, 3, 83, 2, 1, [(1321, 0)]),
  (false, 5, .ifCond .eq 49, 3, 28, 0, 0, []),
  (false, 8, .iload_n 2, 1, 2, 0, 0, []),
  (false, 9, .i2l, 1, 0, 0, 0, []),
  (false, 10, .ldc2_w 336, 3, 1423, 0, 3, []),
  (false, 13, .ldc2_w 244, 3, 1340, 0, 5, []),
  (false, 16, .invokestatic 91, 3, 50, 3, 1, [(1147, 0)]),
  (false, 19, .ifCond .eq 35, 3, 28, 0, 0, []),
  (false, 22, .aload_n 0, 1, 0, 0, 0, []),
  (false, 23, .getfield 7, 3, 10, 0, 0, [(1003, 7)]),
  (false, 26, .sipush 136, 3, 0, 0, 136, []),
  (false, 29, .iload_n 1, 1, 1, 0, 0, []),
  (false, 30, .iadd, 1, 0, 0, 0, []),
  (false, 31, .iaload, 1, 0, 0, 0, []),
  (false, 32, .iconst 2, 1, 0, 0, 2, []),
  (false, 33, .if_icmp .eq 21, 3, 28, 0, 0, []),
  (false, 36, .iload_n 2, 1, 2, 0, 0, []),
  (false, 37, .iconst 3, 1, 0, 0, 3, []),
  (false, 38, .if_icmp .le 18, 3, 30, 0, 0, []),
  (false, 41, .aload_n 0, 1, 0, 0, 0, []),
  (false, 42, .getfield 7, 3, 10, 0, 0, [(1003, 7)]),
  (false, 45, .sipush 136, 3, 0, 0, 136, []),
  (false, 48, .iload_n 1, 1, 1, 0, 0, []),
  (false, 49, .iadd, 1, 0, 0, 0, []),
  (false, 50, .iaload, 1, 0, 0, 0, []),
  (false, 51, .ifCond .ne 5, 3, 30, 0, 0, []),
  (false, 54, .iconst (-1), 1, 0, 0, (-1), []),
  (false, 55, .ireturn, 1, 0, 0, 0, []),
  (false, 56, .aload_n 0, 1, 0, 0, 0, []),
  (false, 57, .iload_n 2, 1, 2, 0, 0, []),
  (false, 58, .iconst 5, 1, 0, 0, 5, []),
  (false, 59, .if_icmp .ne 10, 3, 37, 0, 0, []),
  (false, 62, .iload_n 3, 1, 3, 0, 0, []),
  (false, 63, .invokestatic 262, 3, 85, 1, 1, [(1337, 0)]),
  (false, 66, .goto 8, 3, 40, 0, 0, []),
  (false, 69, .aload_n 0, 1, 0, 0, 0, []),
  (false, 70, .iload_n 3, 1, 3, 0, 0, []),
  (false, 71, .invokevirtual 256, 3, 83, 2, 1, [(1321, 0)]),
  (false, 74, .bipush 120, 2, 0, 0, 120, []),
  (false, 76, .bipush 8, 2, 0, 0, 8, []),
  (false, 78, .iload_n 2, 1, 2, 0, 0, []),
  (false, 79, .imul, 1, 0, 0, 0, []),
  (false, 80, .iadd, 1, 0, 0, 0, []),
  (false, 81, .iload_n 1, 1, 1, 0, 0, []),
  (false, 82, .iadd, 1, 0, 0, 0, []),
  (false, 83, .iload_n 3, 1, 3, 0, 0, []),
  (false, 84, .invokevirtual 355, 3, 120, 4, 1, [(1445, 0)]),
  (false, 87, .ireturn, 1, 0, 0, 0, []),
  (false, 88, .nop, 0, 0, 0, 0, [])]
/-- M.keep -/
def zt_124 : List (Bool × zE) := [
  (false, 0, .iload_n 1, 1, 1, 0, 0, []),
  (false, 1, .i2l, 1, 0, 0, 0, []),
  (false, 2, .lconst 0, 1, 0, 0, 0, []),
  (false, 3, .lconst 1, 1, 0, 0, 1, []),
  (false, 4, .invokestatic 91, 3, 50, 3, 1, [(1147, 0)]),
  (false, 7, .ifCond .ne 5, 3, 8, 0, 0, []),
  (false, 10, .iconst (-1), 1, 0, 0, (-1), []),
  (false, 11, .ireturn, 1, 0, 0, 0, []),
  (false, 12, .aload_n 0, 1, 0, 0, 0, []),
  (false, 13, .getfield 73, 3, 10, 40, 40, [(1043, 73)]),
  (false, 16, .iload_n 1, 1, 1, 0, 0, []),
  (false, 17, .saload, 1, 0, 0, 0, []),
  (false, 18, .ifCond .eq 7, 3, 15, 0, 0, []),
  (false, 21, .iconst 1, 1, 0, 0, 1, []),
  (false, 22, .goto 4, 3, 16, 0, 0, []),
  (false, 25, .iconst 0, 1, 0, 0, 0, []),
  (false, 26, .istore_n 2, 1, 2, 0, 0, []),
  (false, 27, .aload_n 0, 1, 0, 0, 0, []),
  (false, 28, .iconst 0, 1, 0, 0, 0, []),
  (false, 29, .sipush 177, 3, 0, 0, 177, []),
  (false, 32, .iload_n 1, 1, 1, 0, 0, []),
  (false, 33, .imul, 1, 0, 0, 0, []),
  (false, 34, .sipush 177, 3, 0, 0, 177, []),
  (false, 37, .iadd, 1, 0, 0, 0, []),
  (false, 38, .invokevirtual 179, 3, 67, 3, 0, [(1215, 0)]),
  (false, 41, .aload_n 0, 1, 0, 0, 0, []),
  (false, 42, .getfield 73, 3, 10, 40, 40, [(1043, 73)]),
  (false, 45, .iload_n 1, 1, 1, 0, 0, []),
  (false, 46, .iconst 1, 1, 0, 0, 1, []),
  (false, 47, .sastore, 1, 0, 0, 0, []),
  (false, 48, .iload_n 2, 1, 2, 0, 0, []),
  (false, 49, .ireturn, 1, 0, 0, 0, []),
  (false, 50, .nop, 0, 0, 0, 0, [])]
/-- M.back -/
def zt_125 : List (Bool × zE) := [
  (false, 0, .iload_n 1, 1, 1, 0, 0, []),
  (false, 1, .i2l, 1, 0, 0, 0, []),
  (false, 2, .lconst 0, 1, 0, 0, 0, []),
  (false, 3, .lconst 1, 1, 0, 0, 1, []),
  (false, 4, .invokestatic 91, 3, 50, 3, 1, [(1147, 0)]),
  (false, 7, .ifCond .ne 5, 3, 8, 0, 0, []),
  (false, 10, .iconst (-1), 1, 0, 0, (-1), []),
  (false, 11, .ireturn, 1, 0, 0, 0, []),
  (false, 12, .aload_n 0, 1, 0, 0, 0, []),
  (false, 13, .getfield 73, 3, 10, 40, 40, [(1043, 73)]),
  (false, 16, .iload_n 1, 1, 1, 0, 0, []),
  (false, 17, .saload, 1, 0, 0, 0, []),
  (false, 18, .ifCond .ne 6, 3, 15, 0, 0, []),
  (false, 21, .bipush (-2), 2, 0, 0, (-2), []),
  (false, 23, .ireturn, 1, 0, 0, 0, []),
  (false, 24, .aload_n 0, 1, 0, 0, 0, []),
  (false, 25, .sipush 177, 3, 0, 0, 177, []),
  (false, 28, .iload_n 1, 1, 1, 0, 0, []),
  (false, 29, .imul, 1, 0, 0, 0, []),
  (false, 30, .sipush 177, 3, 0, 0, 177, []),
  (false, 33, .iadd, 1, 0, 0, 0, []),
  (false, 34, .iconst 0, 1, 0, 0, 0, []),
  (false, 35, .invokevirtual 179, 3, 67, 3, 0, [(1215, 0)]),
  (false, 38, .aload_n 0, 1, 0, 0, 0, []),
  (false, 39, .iconst 0, 1, 0, 0, 0, []),
  (false, 40, .putstatic 182, 3, 10, 14, 14, [(1017, 182)]),
  (false, 43, .aload_n 0, 1, 0, 0, 0, []),
  (false, 44, .iconst 0, 1, 0, 0, 0, []),
  (false, 45, .putstatic 186, 3, 10, 36, 36, [(1039, 186)]),
  (false, 48, .aload_n 0, 1, 0, 0, 0, []),
  (false, 49, .getfield 7, 3, 10, 0, 0, [(1003, 7)]),
  (false, 52, .sipush 175, 3, 0, 0, 175, []),
  (false, 55, .iaload, 1, 0, 0, 0, []),
  (false, 56, .ireturn, 1, 0, 0, 0, []),
  (false, 57, .nop, 0, 0, 0, 0, [])]
/-- M.sheet -/
def zt_126 : List (Bool × zE) := [
  (false, 0, .iload_n 1, 1, 1, 0, 0, []),
  (false, 1, .i2l, 1, 0, 0, 0, []),
  (false, 2, .lconst 0, 1, 0, 0, 0, []),
  (false, 3, .ldc2_w 336, 3, 1423, 0, 3, []),
  (false, 6, .invokestatic 91, 3, 50, 3, 1, [(1147, 0)]),
  (false, 9, .ifCond .eq 21, 3, 15, 0, 0, []),
  (false, 12, .iload_n 2, 1, 2, 0, 0, []),
  (false, 13, .i2l, 1, 0, 0, 0, []),
  (false, 14, .lconst 0, 1, 0, 0, 0, []),
  (false, 15, .ldc2_w 162, 3, 1205, 0, 2, []),
  (false, 18, .invokestatic 91, 3, 50, 3, 1, [(1147, 0)]),
  (false, 21, .ifCond .eq 9, 3, 15, 0, 0, []),
  (false, 24, .iload_n 3, 1, 3, 0, 0, []),
  (false, 25, .bipush 40, 2, 0, 0, 40, []),
  (false, 27, .if_icmp .le 5, 3, 17, 0, 0, []),
  (false, 30, .iconst (-1), 1, 0, 0, (-1), []),
  (false, 31, .ireturn, 1, 0, 0, 0, []),
  (false, 32, .iload_n 3, 1, 3, 0, 0, []),
  (false, 33, .ifCond .ge 6, 3, 21, 0, 0, []),
  (false, 36, .bipush (-14), 2, 0, 0, (-14), []),
  (false, 38, .ireturn, 1, 0, 0, 0, []),
  (false, 39, .aload_n 0, 1, 0, 0, 0, []),
  (false, 40, .getfield 77, 3, 10, 41, 41, [(1044, 77)]),
  (false, 43, .iload_n 1, 1, 1, 0, 0, []),
  (false, 44, .iload_n 2, 1, 2, 0, 0, []),
  (false, 45, .iastore, 1, 0, 0, 0, []),
  (false, 46, .aload_n 0, 1, 0, 0, 0, []),
  (false, 47, .getfield 80, 3, 10, 42, 42, [(1045, 80)]),
  (false, 50, .iload_n 1, 1, 1, 0, 0, []),
  (false, 51, .iload_n 3, 1, 3, 0, 0, []),
  (false, 52, .iastore, 1, 0, 0, 0, []),
  (false, 53, .iconst 0, 1, 0, 0, 0, []),
  (false, 54, .istore 4, 2, 4, 0, 0, []),
  (true, 56, .iload 4, 2, 4, 0, 0, []),
  (false, 58, .bipush 40, 2, 0, 0, 40, []),
  (false, 60, .if_icmp .ge 22, 3, 47, 0, 0, []),
  (false, 63, .aload_n 0, 1, 0, 0, 0, []),
  (false, 64, .getfield 83, 3, 10, 43, 43, [(1046, 83)]),
  (false, 67, .bipush 40, 2, 0, 0, 40, []),
  (false, 69, .iload_n 1, 1, 1, 0, 0, []),
  (false, 70, .imul, 1, 0, 0, 0, []),
  (false, 71, .iload 4, 2, 4, 0, 0, []),
  (false, 73, .iadd, 1, 0, 0, 0, []),
  (false, 74, .iconst 0, 1, 0, 0, 0, []),
  (false, 75, .iastore, 1, 0, 0, 0, []),
  (false, 76, .iinc 4 1, 3, 4, 0, 1, []),
  (false, 79, .goto (-23), 3, 33, 0, 0, []),
  (false, 82, .iconst 1, 1, 0, 0, 1, []),
  (false, 83, .ireturn, 1, 0, 0, 0, []),
  (false, 84, .nop, 0, 0, 0, 0, [])]
/-- M.lay -/
def zt_127 : List (Bool × zE) := [
  (false, 0, .iload_n 1, 1, 1, 0, 0, []),
  (false, 1, .i2l, 1, 0, 0, 0, []),
  (false, 2, .lconst 0, 1, 0, 0, 0, []),
  (false, 3, .ldc2_w 336, 3, 1423, 0, 3, []),
  (false, 6, .invokestatic 91, 3, 50, 3, 1, [(1147, 0)]),
  (false, 9, .ifCond .ne 5, 3, 8, 0, 0, []),
  (false, 12, .iconst (-1), 1, 0, 0, (-1), []),
  (false, 13, .ireturn, 1, 0, 0, 0, []),
  (false, 14, .aload_n 0, 1, 0, 0, 0, []),
  (false, 15, .getfield 77, 3, 10, 41, 41, [(1044, 77)]),
  (false, 18, .iload_n 1, 1, 1, 0, 0, []),
  (false, 19, .iaload, 1, 0, 0, 0, []),
  (false, 20, .bipush (-4), 2, 0, 0, (-4), []),
  (false, 22, .if_icmp .ne 6, 3, 16, 0, 0, []),
  (false, 25, .bipush (-11), 2, 0, 0, (-11), []),
  (false, 27, .ireturn, 1, 0, 0, 0, []),
  (false, 28, .iload_n 2, 1, 2, 0, 0, []),
  (false, 29, .i2l, 1, 0, 0, 0, []),
  (false, 30, .lconst 0, 1, 0, 0, 0, []),
  (false, 31, .aload_n 0, 1, 0, 0, 0, []),
  (false, 32, .getfield 80, 3, 10, 42, 42, [(1045, 80)]),
  (false, 35, .iload_n 1, 1, 1, 0, 0, []),
  (false, 36, .iaload, 1, 0, 0, 0, []),
  (false, 37, .iconst 1, 1, 0, 0, 1, []),
  (false, 38, .isub, 1, 0, 0, 0, []),
  (false, 39, .i2l, 1, 0, 0, 0, []),
  (false, 40, .invokestatic 91, 3, 50, 3, 1, [(1147, 0)]),
  (false, 43, .ifCond .ne 6, 3, 30, 0, 0, []),
  (false, 46, .bipush (-12), 2, 0, 0, (-12), []),
  (false, 48, .ireturn, 1, 0, 0, 0, []),
  (false, 49, .aload_n 0, 1, 0, 0, 0, []),
  (false, 50, .getfield 83, 3, 10, 43, 43, [(1046, 83)]),
  (false, 53, .bipush 40, 2, 0, 0, 40, []),
  (false, 55, .iload_n 1, 1, 1, 0, 0, []),
  (false, 56, .imul, 1, 0, 0, 0, []),
  (false, 57, .iload_n 2, 1, 2, 0, 0, []),
  (false, 58, .iadd, 1, 0, 0, 0, []),
  (false, 59, .aload_n 0, 1, 0, 0, 0, []),
  (false, 60, .getfield 77, 3, 10, 41, 41, [(1044, 77)]),
  (false, 63, .iload_n 1, 1, 1, 0, 0, []),
  (false, 64, .iaload, 1, 0, 0, 0, []),
  (false, 65, .ifCond .ne 13, 3, 48, 0, 0, []),
  (false, 68, .iload_n 3, 1, 3, 0, 0, []),
  (false, 69, .bipush 24, 2, 0, 0, 24, []),
  (false, 71, .ishl, 1, 0, 0, 0, []),
  (false, 72, .bipush 24, 2, 0, 0, 24, []),
  (false, 74, .ishr, 1, 0, 0, 0, []),
  (false, 75, .goto 24, 3, 61, 0, 0, []),
  (false, 78, .aload_n 0, 1, 0, 0, 0, []),
  (false, 79, .getfield 77, 3, 10, 41, 41, [(1044, 77)]),
  (false, 82, .iload_n 1, 1, 1, 0, 0, []),
  (false, 83, .iaload, 1, 0, 0, 0, []),
  (false, 84, .iconst 1, 1, 0, 0, 1, []),
  (false, 85, .if_icmp .ne 13, 3, 60, 0, 0, []),
  (false, 88, .iload_n 3, 1, 3, 0, 0, []),
  (false, 89, .bipush 16, 2, 0, 0, 16, []),
  (false, 91, .ishl, 1, 0, 0, 0, []),
  (false, 92, .bipush 16, 2, 0, 0, 16, []),
  (false, 94, .ishr, 1, 0, 0, 0, []),
  (false, 95, .goto 4, 3, 61, 0, 0, []),
  (false, 98, .iload_n 3, 1, 3, 0, 0, []),
  (false, 99, .iastore, 1, 0, 0, 0, []),
  (false, 100, .iconst 1, 1, 0, 0, 1, []),
  (false, 101, .ireturn, 1, 0, 0, 0, []),
  (false, 102, .nop, 0, 0, 0, 0, [])]
/-- M.setsAside -/
def zt_128 : List (Bool × zE) := [
  (false, 0, .iconst 0, 1, 0, 0, 0, []),
  (false, 1, .istore_n 2, 1, 2, 0, 0, []),
  (true, 2, .iload_n 2, 1, 2, 0, 0, []),
  (false, 3, .bipush 6, 2, 0, 0, 6, []),
  (false, 5, .if_icmp .ge 40, 3, 26, 0, 0, []),
  (false, 8, .iload_n 1, 1, 1, 0, 0, []),
  (false, 9, .ifCond .eq 18, 3, 16, 0, 0, []),
  (false, 12, .aload_n 0, 1, 0, 0, 0, []),
  (false, 13, .getfield 58, 3, 10, 29, 29, [(1032, 58)]),
  (false, 16, .iload_n 2, 1, 2, 0, 0, []),
  (false, 17, .aload_n 0, 1, 0, 0, 0, []),
  (false, 18, .getfield 86, 3, 10, 44, 44, [(1047, 86)]),
  (false, 21, .iload_n 2, 1, 2, 0, 0, []),
  (false, 22, .iaload, 1, 0, 0, 0, []),
  (false, 23, .iastore, 1, 0, 0, 0, []),
  (false, 24, .goto 15, 3, 24, 0, 0, []),
  (false, 27, .aload_n 0, 1, 0, 0, 0, []),
  (false, 28, .getfield 86, 3, 10, 44, 44, [(1047, 86)]),
  (false, 31, .iload_n 2, 1, 2, 0, 0, []),
  (false, 32, .aload_n 0, 1, 0, 0, 0, []),
  (false, 33, .getfield 58, 3, 10, 29, 29, [(1032, 58)]),
  (false, 36, .iload_n 2, 1, 2, 0, 0, []),
  (false, 37, .iaload, 1, 0, 0, 0, []),
  (false, 38, .iastore, 1, 0, 0, 0, []),
  (false, 39, .iinc 2 1, 3, 2, 0, 1, []),
  (false, 42, .goto (-40), 3, 2, 0, 0, []),
  (false, 45, .return_, 1, 0, 0, 0, []),
  (false, 46, .nop, 0, 0, 0, 0, [])]
/-- M.read -/
def zt_129 : List (Bool × zE) := [
  (false, 0, .iload_n 1, 1, 1, 0, 0, []),
  (false, 1, .i2l, 1, 0, 0, 0, []),
  (false, 2, .lconst 0, 1, 0, 0, 0, []),
  (false, 3, .ldc2_w 336, 3, 1423, 0, 3, []),
  (false, 6, .invokestatic 91, 3, 50, 3, 1, [(1147, 0)]),
  (false, 9, .ifCond .eq 28, 3, 18, 0, 0, []),
  (false, 12, .iload_n 2, 1, 2, 0, 0, []),
  (false, 13, .i2l, 1, 0, 0, 0, []),
  (false, 14, .lconst 0, 1, 0, 0, 0, []),
  (false, 15, .ldc2_w 162, 3, 1205, 0, 2, []),
  (false, 18, .invokestatic 91, 3, 50, 3, 1, [(1147, 0)]),
  (false, 21, .ifCond .eq 16, 3, 18, 0, 0, []),
  (false, 24, .iload 4, 2, 4, 0, 0, []),
  (false, 26, .i2l, 1, 0, 0, 0, []),
  (false, 27, .lconst 0, 1, 0, 0, 0, []),
  (false, 28, .ldc2_w 359, 3, 1473, 0, 20, []),
  (false, 31, .invokestatic 91, 3, 50, 3, 1, [(1147, 0)]),
  (false, 34, .ifCond .ne 5, 3, 20, 0, 0, []),
  (false, 37, .iconst (-1), 1, 0, 0, (-1), []),
  (false, 38, .ireturn, 1, 0, 0, 0, []),
  (false, 39, .aload_n 0, 1, 0, 0, 0, []),
  (false, 40, .iconst 0, 1, 0, 0, 0, []),
  (false, 41, .invokevirtual 361, 3, 128, 2, 0, [(1474, 0)]),
  (false, 44, .iconst 0, 1, 0, 0, 0, []),
  (false, 45, .istore 5, 2, 5, 0, 0, []),
  (false, 47, .iconst 0, 1, 0, 0, 0, []),
  (false, 48, .istore 6, 2, 6, 0, 0, []),
  (false, 50, .iconst 0, 1, 0, 0, 0, []),
  (false, 51, .istore 7, 2, 7, 0, 0, []),
  (true, 53, .iload 7, 2, 7, 0, 0, []),
  (false, 55, .iconst 2, 1, 0, 0, 2, []),
  (false, 56, .iload 4, 2, 4, 0, 0, []),
  (false, 58, .imul, 1, 0, 0, 0, []),
  (false, 59, .if_icmp .ge 136, 3, 110, 0, 0, []),
  (false, 62, .iload 5, 2, 5, 0, 0, []),
  (false, 64, .ifCond .ne 131, 3, 110, 0, 0, []),
  (false, 67, .iload_n 3, 1, 3, 0, 0, []),
  (false, 68, .i2l, 1, 0, 0, 0, []),
  (false, 69, .iload 7, 2, 7, 0, 0, []),
  (false, 71, .i2l, 1, 0, 0, 0, []),
  (false, 72, .ladd, 1, 0, 0, 0, []),
  (false, 73, .lstore 8, 2, 8, 0, 0, []),
  (false, 75, .aload_n 0, 1, 0, 0, 0, []),
  (false, 76, .getfield 77, 3, 10, 41, 41, [(1044, 77)]),
  (false, 79, .iload_n 1, 1, 1, 0, 0, []),
  (false, 80, .iaload, 1, 0, 0, 0, []),
  (false, 81, .bipush (-4), 2, 0, 0, (-4), []),
  (false, 83, .if_icmp .ne 7, 3, 50, 0, 0, []),
  (false, 86, .iconst 1, 1, 0, 0, 1, []),
  (false, 87, .goto 40, 3, 72, 0, 0, []),
  (false, 90, .aload_n 0, 1, 0, 0, 0, []),
  (false, 91, .getfield 77, 3, 10, 41, 41, [(1044, 77)]),
  (false, 94, .iload_n 1, 1, 1, 0, 0, []),
  (false, 95, .iaload, 1, 0, 0, 0, []),
  (false, 96, .iload_n 2, 1, 2, 0, 0, []),
  (false, 97, .if_icmp .eq 7, 3, 58, 0, 0, []),
  (false, 100, .iconst 3, 1, 0, 0, 3, []),
  (false, 101, .goto 26, 3, 72, 0, 0, []),
  (false, 104, .lload 8, 2, 8, 0, 0, []),
  (false, 106, .lconst 0, 1, 0, 0, 0, []),
  (false, 107, .aload_n 0, 1, 0, 0, 0, []),
  (false, 108, .getfield 80, 3, 10, 42, 42, [(1045, 80)]),
  (false, 111, .iload_n 1, 1, 1, 0, 0, []),
  (false, 112, .iaload, 1, 0, 0, 0, []),
  (false, 113, .iconst 1, 1, 0, 0, 1, []),
  (false, 114, .isub, 1, 0, 0, 0, []),
  (false, 115, .i2l, 1, 0, 0, 0, []),
  (false, 116, .invokestatic 91, 3, 50, 3, 1, [(1147, 0)]),
  (false, 119, .ifCond .ne 7, 3, 71, 0, 0, []),
  (false, 122, .iconst 2, 1, 0, 0, 2, []),
  (false, 123, .goto 4, 3, 72, 0, 0, []),
  (false, 126, .iconst 0, 1, 0, 0, 0, []),
  (false, 127, .istore 5, 2, 5, 0, 0, []),
  (false, 129, .iload 5, 2, 5, 0, 0, []),
  (false, 131, .ifCond .ne 58, 3, 108, 0, 0, []),
  (false, 134, .iload 7, 2, 7, 0, 0, []),
  (false, 136, .iconst 2, 1, 0, 0, 2, []),
  (false, 137, .irem, 1, 0, 0, 0, []),
  (false, 138, .iconst 1, 1, 0, 0, 1, []),
  (false, 139, .if_icmp .ne 50, 3, 108, 0, 0, []),
  (false, 142, .bipush 40, 2, 0, 0, 40, []),
  (false, 144, .iload_n 1, 1, 1, 0, 0, []),
  (false, 145, .imul, 1, 0, 0, 0, []),
  (false, 146, .lload 8, 2, 8, 0, 0, []),
  (false, 148, .l2i, 1, 0, 0, 0, []),
  (false, 149, .iadd, 1, 0, 0, 0, []),
  (false, 150, .istore 10, 2, 10, 0, 0, []),
  (false, 152, .aload_n 0, 1, 0, 0, 0, []),
  (false, 153, .aload_n 0, 1, 0, 0, 0, []),
  (false, 154, .getfield 83, 3, 10, 43, 43, [(1046, 83)]),
  (false, 157, .iload 10, 2, 10, 0, 0, []),
  (false, 159, .iconst 1, 1, 0, 0, 1, []),
  (false, 160, .isub, 1, 0, 0, 0, []),
  (false, 161, .iaload, 1, 0, 0, 0, []),
  (false, 162, .aload_n 0, 1, 0, 0, 0, []),
  (false, 163, .getfield 83, 3, 10, 43, 43, [(1046, 83)]),
  (false, 166, .iload 10, 2, 10, 0, 0, []),
  (false, 168, .iaload, 1, 0, 0, 0, []),
  (false, 169, .invokevirtual 296, 3, 106, 3, 1, [(1379, 0)]),
  (false, 172, .ifCond .ge 14, 3, 107, 0, 0, []),
  (false, 175, .aload_n 0, 1, 0, 0, 0, []),
  (false, 176, .iconst 1, 1, 0, 0, 1, []),
  (false, 177, .invokevirtual 361, 3, 128, 2, 0, [(1474, 0)]),
  (false, 180, .bipush (-20), 2, 0, 0, (-20), []),
  (false, 182, .iload 6, 2, 6, 0, 0, []),
  (false, 184, .isub, 1, 0, 0, 0, []),
  (false, 185, .ireturn, 1, 0, 0, 0, []),
  (false, 186, .iinc 6 1, 3, 6, 0, 1, []),
  (false, 189, .iinc 7 1, 3, 7, 0, 1, []),
  (false, 192, .goto (-139), 3, 29, 0, 0, []),
  (false, 195, .aload_n 0, 1, 0, 0, 0, []),
  (false, 196, .iload 5, 2, 5, 0, 0, []),
  (false, 198, .putfield 365, 3, 10, 45, 45, [(1048, 365)]),
  (false, 201, .iload 6, 2, 6, 0, 0, []),
  (false, 203, .ireturn, 1, 0, 0, 0, []),
  (false, 204, .nop, 0, 0, 0, 0, [])]
/-- M.torn -/
def zt_130 : List (Bool × zE) := [
  (false, 0, .aload_n 0, 1, 0, 0, 0, []),
  (false, 1, .getfield 365, 3, 10, 45, 45, [(1048, 365)]),
  (false, 4, .ireturn, 1, 0, 0, 0, []),
  (false, 5, .nop, 0, 0, 0, 0, [])]
/-- M.numberOf -/
def zt_131 : List (Bool × zE) := [
  (false, 0, .iload_n 0, 1, 0, 0, 0, []),
  (false, 1, .i2l, 1, 0, 0, 0, []),
  (false, 2, .lconst 0, 1, 0, 0, 0, []),
  (false, 3, .ldc2_w 267, 3, 1342, 0, 99, []),
  (false, 6, .invokestatic 91, 3, 50, 3, 1, [(1147, 0)]),
  (false, 9, .ifCond .eq 7, 3, 8, 0, 0, []),
  (false, 12, .iload_n 0, 1, 0, 0, 0, []),
  (false, 13, .goto 4, 3, 9, 0, 0, []),
  (false, 16, .iconst 0, 1, 0, 0, 0, []),
  (false, 17, .ireturn, 1, 0, 0, 0, []),
  (false, 18, .nop, 0, 0, 0, 0, [])]
/-- M.count -/
def zt_132 : List (Bool × zE) := [
  (false, 0, .iconst 0, 1, 0, 0, 0, []),
  (false, 1, .istore_n 2, 1, 2, 0, 0, []),
  (false, 2, .iconst 0, 1, 0, 0, 0, []),
  (false, 3, .istore_n 3, 1, 3, 0, 0, []),
  (false, 4, .iconst 0, 1, 0, 0, 0, []),
  (false, 5, .istore 4, 2, 4, 0, 0, []),
  (true, 7, .iload 4, 2, 4, 0, 0, []),
  (false, 9, .bipush 6, 2, 0, 0, 6, []),
  (false, 11, .if_icmp .ge 19, 3, 18, 0, 0, []),
  (false, 14, .iload_n 2, 1, 2, 0, 0, []),
  (false, 15, .aload_n 0, 1, 0, 0, 0, []),
  (false, 16, .getfield 58, 3, 10, 29, 29, [(1032, 58)]),
  (false, 19, .iload 4, 2, 4, 0, 0, []),
  (false, 21, .iaload, 1, 0, 0, 0, []),
  (false, 22, .iadd, 1, 0, 0, 0, []),
  (false, 23, .istore_n 2, 1, 2, 0, 0, []),
  (false, 24, .iinc 4 1, 3, 4, 0, 1, []),
  (false, 27, .goto (-20), 3, 6, 0, 0, []),
  (false, 30, .iconst 0, 1, 0, 0, 0, []),
  (false, 31, .istore 4, 2, 4, 0, 0, []),
  (true, 33, .iload 4, 2, 4, 0, 0, []),
  (false, 35, .aload_n 0, 1, 0, 0, 0, []),
  (false, 36, .getfield 7, 3, 10, 0, 0, [(1003, 7)]),
  (false, 39, .sipush 176, 3, 0, 0, 176, []),
  (false, 42, .iaload, 1, 0, 0, 0, []),
  (false, 43, .if_icmp .ge 39, 3, 46, 0, 0, []),
  (false, 46, .iload_n 3, 1, 3, 0, 0, []),
  (false, 47, .aload_n 0, 1, 0, 0, 0, []),
  (false, 48, .getfield 7, 3, 10, 0, 0, [(1003, 7)]),
  (false, 51, .bipush 48, 2, 0, 0, 48, []),
  (false, 53, .iload 4, 2, 4, 0, 0, []),
  (false, 55, .iadd, 1, 0, 0, 0, []),
  (false, 56, .iaload, 1, 0, 0, 0, []),
  (false, 57, .invokestatic 368, 3, 131, 1, 1, [(1486, 0)]),
  (false, 60, .aload_n 0, 1, 0, 0, 0, []),
  (false, 61, .getfield 7, 3, 10, 0, 0, [(1003, 7)]),
  (false, 64, .bipush 96, 2, 0, 0, 96, []),
  (false, 66, .iload 4, 2, 4, 0, 0, []),
  (false, 68, .iadd, 1, 0, 0, 0, []),
  (false, 69, .iaload, 1, 0, 0, 0, []),
  (false, 70, .invokestatic 368, 3, 131, 1, 1, [(1486, 0)]),
  (false, 73, .iadd, 1, 0, 0, 0, []),
  (false, 74, .iadd, 1, 0, 0, 0, []),
  (false, 75, .istore_n 3, 1, 3, 0, 0, []),
  (false, 76, .iinc 4 1, 3, 4, 0, 1, []),
  (false, 79, .goto (-46), 3, 20, 0, 0, []),
  (false, 82, .iload_n 1, 1, 1, 0, 0, []),
  (false, 83, .tableswitch 95 0 4 #[33, 63, 68, 91, 93], 33, 86, 0, 0, [(0, 48), (1, 66), (2, 69), (3, 82), (4, 84)]),
  (false, 116, .aload_n 0, 1, 0, 0, 0, []),
  (false, 117, .getfield 73, 3, 10, 40, 40, [(1043, 73)]),
  (false, 120, .iconst 0, 1, 0, 0, 0, []),
  (false, 121, .saload, 1, 0, 0, 0, []),
  (false, 122, .ifCond .eq 7, 3, 55, 0, 0, []),
  (false, 125, .iconst 1, 1, 0, 0, 1, []),
  (false, 126, .goto 4, 3, 56, 0, 0, []),
  (false, 129, .iconst 0, 1, 0, 0, 0, []),
  (false, 130, .aload_n 0, 1, 0, 0, 0, []),
  (false, 131, .getfield 73, 3, 10, 40, 40, [(1043, 73)]),
  (false, 134, .iconst 1, 1, 0, 0, 1, []),
  (false, 135, .saload, 1, 0, 0, 0, []),
  (false, 136, .ifCond .eq 7, 3, 63, 0, 0, []),
  (false, 139, .iconst 1, 1, 0, 0, 1, []),
  (false, 140, .goto 4, 3, 64, 0, 0, []),
  (false, 143, .iconst 0, 1, 0, 0, 0, []),
  (false, 144, .iadd, 1, 0, 0, 0, []),
  (false, 145, .ireturn, 1, 0, 0, 0, []),
  (false, 146, .aload_n 0, 1, 0, 0, 0, []),
  (false, 147, .getfield 95, 3, 10, 2, 2, [(1005, 95)]),
  (false, 150, .ireturn, 1, 0, 0, 0, []),
  (false, 151, .aload_n 0, 1, 0, 0, 0, []),
  (false, 152, .getfield 77, 3, 10, 41, 41, [(1044, 77)]),
  (false, 155, .iconst 0, 1, 0, 0, 0, []),
  (false, 156, .iaload, 1, 0, 0, 0, []),
  (false, 157, .bipush (-4), 2, 0, 0, (-4), []),
  (false, 159, .if_icmp .ne 8, 3, 77, 0, 0, []),
  (false, 162, .bipush (-4), 2, 0, 0, (-4), []),
  (false, 164, .goto 9, 3, 81, 0, 0, []),
  (false, 167, .aload_n 0, 1, 0, 0, 0, []),
  (false, 168, .getfield 80, 3, 10, 42, 42, [(1045, 80)]),
  (false, 171, .iconst 0, 1, 0, 0, 0, []),
  (false, 172, .iaload, 1, 0, 0, 0, []),
  (false, 173, .ireturn, 1, 0, 0, 0, []),
  (false, 174, .iload_n 2, 1, 2, 0, 0, []),
  (false, 175, .ireturn, 1, 0, 0, 0, []),
  (false, 176, .iload_n 3, 1, 3, 0, 0, []),
  (false, 177, .ireturn, 1, 0, 0, 0, []),
  (false, 178, .iconst (-1), 1, 0, 0, (-1), []),
  (false, 179, .ireturn, 1, 0, 0, 0, []),
  (false, 180, .nop, 0, 0, 0, 0, [])]
/-- Division.find -/
def zt_133 : List (Bool × zE) := [
  (false, 0, .aload_n 0, 1, 0, 0, 0, []),
  (false, 1, .invokestatic 15, 3, 42, 0, 1, [(647, 1)]),
  (false, 4, .aload_n 1, 1, 1, 0, 0, []),
  (false, 5, .invokevirtual 19, 3, 161, 1, 1, [(650, 0)]),
  (false, 8, .iconst (-1), 1, 0, 0, (-1), []),
  (false, 9, .ixor, 1, 0, 0, 0, []),
  (false, 10, .iand, 1, 0, 0, 0, []),
  (false, 11, .putfield 24, 3, 0, 1, 1, [(272, 24)]),
  (false, 14, .iconst 1, 1, 0, 0, 1, []),
  (false, 15, .istore_n 2, 1, 2, 0, 0, []),
  (false, 16, .iconst 0, 1, 0, 0, 0, []),
  (false, 17, .istore_n 3, 1, 3, 0, 0, []),
  (true, 18, .iload_n 3, 1, 3, 0, 0, []),
  (false, 19, .bipush 6, 2, 0, 0, 6, []),
  (false, 21, .if_icmp .gt 22, 3, 24, 0, 0, []),
  (false, 24, .iload_n 2, 1, 2, 0, 0, []),
  (false, 25, .ifCond .eq 18, 3, 24, 0, 0, []),
  (false, 28, .aload_n 0, 1, 0, 0, 0, []),
  (false, 29, .aload_n 1, 1, 1, 0, 0, []),
  (false, 30, .getfield 28, 3, 3, 0, 0, [(243, 28)]),
  (false, 33, .invokevirtual 32, 3, 134, 2, 1, [(654, 0)]),
  (false, 36, .istore_n 2, 1, 2, 0, 0, []),
  (false, 37, .iinc 3 1, 3, 3, 0, 1, []),
  (false, 40, .goto (-22), 3, 12, 0, 0, []),
  (false, 43, .iconst 0, 1, 0, 0, 0, []),
  (false, 44, .istore_n 3, 1, 3, 0, 0, []),
  (true, 45, .iload_n 3, 1, 3, 0, 0, []),
  (false, 46, .bipush 8, 2, 0, 0, 8, []),
  (false, 48, .if_icmp .ge 16, 3, 36, 0, 0, []),
  (false, 51, .aload_n 0, 1, 0, 0, 0, []),
  (false, 52, .getfield 9, 3, 0, 0, 0, [(271, 9)]),
  (false, 55, .iload_n 3, 1, 3, 0, 0, []),
  (false, 56, .iconst 0, 1, 0, 0, 0, []),
  (false, 57, .iastore, 1, 0, 0, 0, []),
  (false, 58, .iinc 3 1, 3, 3, 0, 1, []),
  (false, 61, .goto (-16), 3, 26, 0, 0, []),
  (false, 64, .iconst 1, 1, 0, 0, 1, []),
  (false, 65, .istore_n 2, 1, 2, 0, 0, []),
  (false, 66, .iconst 0, 1, 0, 0, 0, []),
  (false, 67, .istore_n 3, 1, 3, 0, 0, []),
  (true, 68, .iload_n 3, 1, 3, 0, 0, []),
  (false, 69, .bipush 48, 2, 0, 0, 48, []),
  (false, 71, .if_icmp .gt 22, 3, 52, 0, 0, []),
  (false, 74, .iload_n 2, 1, 2, 0, 0, []),
  (false, 75, .ifCond .eq 18, 3, 52, 0, 0, []),
  (false, 78, .aload_n 0, 1, 0, 0, 0, []),
  (false, 79, .aload_n 1, 1, 1, 0, 0, []),
  (false, 80, .getfield 28, 3, 3, 0, 0, [(243, 28)]),
  (false, 83, .invokevirtual 36, 3, 135, 2, 1, [(668, 0)]),
  (false, 86, .istore_n 2, 1, 2, 0, 0, []),
  (false, 87, .iinc 3 1, 3, 3, 0, 1, []),
  (false, 90, .goto (-22), 3, 40, 0, 0, []),
  (false, 93, .return_, 1, 0, 0, 0, []),
  (false, 94, .nop, 0, 0, 0, 0, [])]
/-- Division.spreadsUnknown -/
def zt_134 : List (Bool × zE) := [
  (false, 0, .aload_n 0, 1, 0, 0, 0, []),
  (false, 1, .getfield 24, 3, 0, 1, 1, [(272, 24)]),
  (false, 4, .istore_n 2, 1, 2, 0, 0, []),
  (false, 5, .iconst 0, 1, 0, 0, 0, []),
  (false, 6, .istore_n 3, 1, 3, 0, 0, []),
  (true, 7, .iload_n 3, 1, 3, 0, 0, []),
  (false, 8, .aload_n 1, 1, 1, 0, 0, []),
  (false, 9, .getfield 39, 3, 8, 8, 8, [(177, 39)]),
  (false, 12, .if_icmp .ge 48, 3, 34, 0, 0, []),
  (false, 15, .aload_n 1, 1, 1, 0, 0, []),
  (false, 16, .iload_n 3, 1, 3, 0, 0, []),
  (false, 17, .iconst 0, 1, 0, 0, 0, []),
  (false, 18, .invokevirtual 44, 3, 199, 3, 1, [(658, 0)]),
  (false, 21, .ifCond .ne 33, 3, 32, 0, 0, []),
  (false, 24, .aload_n 1, 1, 1, 0, 0, []),
  (false, 25, .iload_n 3, 1, 3, 0, 0, []),
  (false, 26, .invokestatic 48, 3, 138, 2, 1, [(662, 0)]),
  (false, 29, .aload_n 0, 1, 0, 0, 0, []),
  (false, 30, .getfield 24, 3, 0, 1, 1, [(272, 24)]),
  (false, 33, .iand, 1, 0, 0, 0, []),
  (false, 34, .ifCond .eq 20, 3, 32, 0, 0, []),
  (false, 37, .aload_n 0, 1, 0, 0, 0, []),
  (false, 38, .dup, 1, 0, 0, 0, []),
  (false, 39, .getfield 24, 3, 0, 1, 1, [(272, 24)]),
  (false, 42, .iconst 1, 1, 0, 0, 1, []),
  (false, 43, .aload_n 1, 1, 1, 0, 0, []),
  (false, 44, .iload_n 3, 1, 3, 0, 0, []),
  (false, 45, .iconst 1, 1, 0, 0, 1, []),
  (false, 46, .invokevirtual 44, 3, 199, 3, 1, [(658, 0)]),
  (false, 49, .ishl, 1, 0, 0, 0, []),
  (false, 50, .ior, 1, 0, 0, 0, []),
  (false, 51, .putfield 24, 3, 0, 1, 1, [(272, 24)]),
  (false, 54, .iinc 3 1, 3, 3, 0, 1, []),
  (false, 57, .goto (-50), 3, 5, 0, 0, []),
  (false, 60, .aload_n 0, 1, 0, 0, 0, []),
  (false, 61, .getfield 24, 3, 0, 1, 1, [(272, 24)]),
  (false, 64, .iload_n 2, 1, 2, 0, 0, []),
  (false, 65, .if_icmp .eq 7, 3, 40, 0, 0, []),
  (false, 68, .iconst 1, 1, 0, 0, 1, []),
  (false, 69, .goto 4, 3, 41, 0, 0, []),
  (false, 72, .iconst 0, 1, 0, 0, 0, []),
  (false, 73, .freturn, 1, 0, 0, 0, []),
  (false, 74, .nop, 0, 0, 0, 0, [])]
/-- Division.spreadsAhead -/
def zt_135 : List (Bool × zE) := [
  (false, 0, .iconst 0, 1, 0, 0, 0, []),
  (false, 1, .istore_n 2, 1, 2, 0, 0, []),
  (false, 2, .aload_n 1, 1, 1, 0, 0, []),
  (false, 3, .getfield 52, 3, 8, 7, 7, [(173, 52)]),
  (false, 6, .bipush 8, 2, 0, 0, 8, []),
  (false, 8, .monitorexit, 3, 0, 0, 0, [(672, 55)]),
  (false, 11, .iconst 1, 1, 0, 0, 1, []),
  (false, 12, .isub, 1, 0, 0, 0, []),
  (false, 13, .istore_n 3, 1, 3, 0, 0, []),
  (true, 14, .iload_n 3, 1, 3, 0, 0, []),
  (false, 15, .ifCond .lt 85, 3, 60, 0, 0, []),
  (false, 18, .aload_n 0, 1, 0, 0, 0, []),
  (false, 19, .aload_n 1, 1, 1, 0, 0, []),
  (false, 20, .getfield 60, 3, 8, 3, 3, [(159, 60)]),
  (false, 23, .iload_n 3, 1, 3, 0, 0, []),
  (false, 24, .iaload, 1, 0, 0, 0, []),
  (false, 25, .invokevirtual 63, 3, 137, 2, 1, [(673, 0)]),
  (false, 28, .aload_n 0, 1, 0, 0, 0, []),
  (false, 29, .aload_n 1, 1, 1, 0, 0, []),
  (false, 30, .getfield 67, 3, 8, 4, 4, [(163, 67)]),
  (false, 33, .iload_n 3, 1, 3, 0, 0, []),
  (false, 34, .iaload, 1, 0, 0, 0, []),
  (false, 35, .invokevirtual 63, 3, 137, 2, 1, [(673, 0)]),
  (false, 38, .ior, 1, 0, 0, 0, []),
  (false, 39, .istore 4, 2, 4, 0, 0, []),
  (false, 41, .aload_n 1, 1, 1, 0, 0, []),
  (false, 42, .getfield 70, 3, 8, 2, 2, [(156, 70)]),
  (false, 45, .iload_n 3, 1, 3, 0, 0, []),
  (false, 46, .iaload, 1, 0, 0, 0, []),
  (false, 47, .iconst 1, 1, 0, 0, 1, []),
  (false, 48, .if_icmp .ne 16, 3, 40, 0, 0, []),
  (false, 51, .iload 4, 2, 4, 0, 0, []),
  (false, 53, .iconst 1, 1, 0, 0, 1, []),
  (false, 54, .aload_n 1, 1, 1, 0, 0, []),
  (false, 55, .getfield 73, 3, 8, 5, 5, [(167, 73)]),
  (false, 58, .iload_n 3, 1, 3, 0, 0, []),
  (false, 59, .iaload, 1, 0, 0, 0, []),
  (false, 60, .ishl, 1, 0, 0, 0, []),
  (false, 61, .ior, 1, 0, 0, 0, []),
  (false, 62, .istore 4, 2, 4, 0, 0, []),
  (false, 64, .aload_n 1, 1, 1, 0, 0, []),
  (false, 65, .iload_n 3, 1, 3, 0, 0, []),
  (false, 66, .iload 4, 2, 4, 0, 0, []),
  (false, 68, .invokestatic 76, 3, 136, 3, 1, [(677, 0)]),
  (false, 71, .istore 4, 2, 4, 0, 0, []),
  (false, 73, .iload 4, 2, 4, 0, 0, []),
  (false, 75, .aload_n 0, 1, 0, 0, 0, []),
  (false, 76, .getfield 9, 3, 0, 0, 0, [(271, 9)]),
  (false, 79, .iload_n 3, 1, 3, 0, 0, []),
  (false, 80, .iaload, 1, 0, 0, 0, []),
  (false, 81, .if_icmp .eq 13, 3, 58, 0, 0, []),
  (false, 84, .aload_n 0, 1, 0, 0, 0, []),
  (false, 85, .getfield 9, 3, 0, 0, 0, [(271, 9)]),
  (false, 88, .iload_n 3, 1, 3, 0, 0, []),
  (false, 89, .iload 4, 2, 4, 0, 0, []),
  (false, 91, .iastore, 1, 0, 0, 0, []),
  (false, 92, .iconst 1, 1, 0, 0, 1, []),
  (false, 93, .istore_n 2, 1, 2, 0, 0, []),
  (false, 94, .iinc 3 (-1), 3, 3, 0, (-1), []),
  (false, 97, .goto (-83), 3, 9, 0, 0, []),
  (false, 100, .iload_n 2, 1, 2, 0, 0, []),
  (false, 101, .freturn, 1, 0, 0, 0, []),
  (false, 102, .nop, 0, 0, 0, 0, [])]
/-- Division.aheadOfSteps -/
def zt_136 : List (Bool × zE) := [
  (false, 0, .iload_n 2, 1, 2, 0, 0, []),
  (false, 1, .istore_n 3, 1, 3, 0, 0, []),
  (false, 2, .aload_n 0, 1, 0, 0, 0, []),
  (false, 3, .getfield 80, 3, 8, 0, 0, [(145, 80)]),
  (false, 6, .iload_n 1, 1, 1, 0, 0, []),
  (false, 7, .iaload, 1, 0, 0, 0, []),
  (false, 8, .aload_n 0, 1, 0, 0, 0, []),
  (false, 9, .getfield 83, 3, 8, 1, 1, [(151, 83)]),
  (false, 12, .iload_n 1, 1, 1, 0, 0, []),
  (false, 13, .iaload, 1, 0, 0, 0, []),
  (false, 14, .iadd, 1, 0, 0, 0, []),
  (false, 15, .iconst 1, 1, 0, 0, 1, []),
  (false, 16, .isub, 1, 0, 0, 0, []),
  (false, 17, .istore 4, 2, 4, 0, 0, []),
  (true, 19, .iload 4, 2, 4, 0, 0, []),
  (false, 21, .aload_n 0, 1, 0, 0, 0, []),
  (false, 22, .getfield 80, 3, 8, 0, 0, [(145, 80)]),
  (false, 25, .iload_n 1, 1, 1, 0, 0, []),
  (false, 26, .iaload, 1, 0, 0, 0, []),
  (false, 27, .if_icmp .lt 42, 3, 44, 0, 0, []),
  (false, 30, .aload_n 0, 1, 0, 0, 0, []),
  (false, 31, .iload 4, 2, 4, 0, 0, []),
  (false, 33, .iconst 0, 1, 0, 0, 0, []),
  (false, 34, .invokevirtual 44, 3, 199, 3, 1, [(658, 0)]),
  (false, 37, .ifCond .ne 17, 3, 36, 0, 0, []),
  (false, 40, .iload_n 3, 1, 3, 0, 0, []),
  (false, 41, .iconst 1, 1, 0, 0, 1, []),
  (false, 42, .aload_n 0, 1, 0, 0, 0, []),
  (false, 43, .iload 4, 2, 4, 0, 0, []),
  (false, 45, .iconst 1, 1, 0, 0, 1, []),
  (false, 46, .invokevirtual 44, 3, 199, 3, 1, [(658, 0)]),
  (false, 49, .ishl, 1, 0, 0, 0, []),
  (false, 50, .iconst (-1), 1, 0, 0, (-1), []),
  (false, 51, .ixor, 1, 0, 0, 0, []),
  (false, 52, .iand, 1, 0, 0, 0, []),
  (false, 53, .istore_n 3, 1, 3, 0, 0, []),
  (false, 54, .iload_n 3, 1, 3, 0, 0, []),
  (false, 55, .aload_n 0, 1, 0, 0, 0, []),
  (false, 56, .iload 4, 2, 4, 0, 0, []),
  (false, 58, .invokestatic 48, 3, 138, 2, 1, [(662, 0)]),
  (false, 61, .ior, 1, 0, 0, 0, []),
  (false, 62, .istore_n 3, 1, 3, 0, 0, []),
  (false, 63, .iinc 4 (-1), 3, 4, 0, (-1), []),
  (false, 66, .goto (-47), 3, 14, 0, 0, []),
  (false, 69, .iload_n 3, 1, 3, 0, 0, []),
  (false, 70, .ireturn, 1, 0, 0, 0, []),
  (false, 71, .nop, 0, 0, 0, 0, [])]
/-- Division.aheadAt -/
def zt_137 : List (Bool × zE) := [
  (false, 0, .iload_n 1, 1, 1, 0, 0, []),
  (false, 1, .ifCond .lt 18, 3, 10, 0, 0, []),
  (false, 4, .iload_n 1, 1, 1, 0, 0, []),
  (false, 5, .bipush 8, 2, 0, 0, 8, []),
  (false, 7, .if_icmp .ge 12, 3, 10, 0, 0, []),
  (false, 10, .aload_n 0, 1, 0, 0, 0, []),
  (false, 11, .getfield 9, 3, 0, 0, 0, [(271, 9)]),
  (false, 14, .iload_n 1, 1, 1, 0, 0, []),
  (false, 15, .iaload, 1, 0, 0, 0, []),
  (false, 16, .goto 4, 3, 11, 0, 0, []),
  (false, 19, .iconst 0, 1, 0, 0, 0, []),
  (false, 20, .ireturn, 1, 0, 0, 0, []),
  (false, 21, .nop, 0, 0, 0, 0, [])]
/-- Division.operandBits -/
def zt_138 : List (Bool × zE) := [
  (false, 0, .aload_n 0, 1, 0, 0, 0, []),
  (false, 1, .iload_n 1, 1, 1, 0, 0, []),
  (false, 2, .iconst 2, 1, 0, 0, 2, []),
  (false, 3, .invokevirtual 44, 3, 199, 3, 1, [(658, 0)]),
  (false, 6, .invokestatic 86, 3, 45, 1, 1, [(665, 1)]),
  (false, 9, .aload_n 0, 1, 0, 0, 0, []),
  (false, 10, .iload_n 1, 1, 1, 0, 0, []),
  (false, 11, .iconst 4, 1, 0, 0, 4, []),
  (false, 12, .invokevirtual 44, 3, 199, 3, 1, [(658, 0)]),
  (false, 15, .invokestatic 86, 3, 45, 1, 1, [(665, 1)]),
  (false, 18, .ior, 1, 0, 0, 0, []),
  (false, 19, .ireturn, 1, 0, 0, 0, []),
  (false, 20, .nop, 0, 0, 0, 0, [])]
/-- Letters.at -/
def zt_139 : List (Bool × zE) := [
  (false, 0, .iload_n 1, 1, 1, 0, 0, []),
  (false, 1, .ifCond .lt 29, 3, 16, 0, 0, []),
  (false, 4, .iload_n 1, 1, 1, 0, 0, []),
  (false, 5, .aload_n 0, 1, 0, 0, 0, []),
  (false, 6, .getfield 15, 3, 1, 1, 1, [(321, 15)]),
  (false, 9, .if_icmp .ge 21, 3, 16, 0, 0, []),
  (false, 12, .iload_n 1, 1, 1, 0, 0, []),
  (false, 13, .aload_n 0, 1, 0, 0, 0, []),
  (false, 14, .getfield 9, 3, 1, 0, 0, [(320, 9)]),
  (false, 17, .arraylength, 1, 0, 0, 0, []),
  (false, 18, .if_icmp .ge 12, 3, 16, 0, 0, []),
  (false, 21, .aload_n 0, 1, 0, 0, 0, []),
  (false, 22, .getfield 9, 3, 1, 0, 0, [(320, 9)]),
  (false, 25, .iload_n 1, 1, 1, 0, 0, []),
  (false, 26, .baload, 1, 0, 0, 0, []),
  (false, 27, .goto 4, 3, 17, 0, 0, []),
  (false, 30, .iconst (-1), 1, 0, 0, (-1), []),
  (false, 31, .ireturn, 1, 0, 0, 0, []),
  (false, 32, .nop, 0, 0, 0, 0, [])]
/-- Letters.add -/
def zt_140 : List (Bool × zE) := [
  (false, 0, .aload_n 0, 1, 0, 0, 0, []),
  (false, 1, .getfield 15, 3, 1, 1, 1, [(321, 15)]),
  (false, 4, .aload_n 0, 1, 0, 0, 0, []),
  (false, 5, .getfield 9, 3, 1, 0, 0, [(320, 9)]),
  (false, 8, .arraylength, 1, 0, 0, 0, []),
  (false, 9, .if_icmp .ge 24, 3, 19, 0, 0, []),
  (false, 12, .aload_n 0, 1, 0, 0, 0, []),
  (false, 13, .getfield 9, 3, 1, 0, 0, [(320, 9)]),
  (false, 16, .aload_n 0, 1, 0, 0, 0, []),
  (false, 17, .getfield 15, 3, 1, 1, 1, [(321, 15)]),
  (false, 20, .iload_n 1, 1, 1, 0, 0, []),
  (false, 21, .i2b, 1, 0, 0, 0, []),
  (false, 22, .bastore, 1, 0, 0, 0, []),
  (false, 23, .aload_n 0, 1, 0, 0, 0, []),
  (false, 24, .dup, 1, 0, 0, 0, []),
  (false, 25, .getfield 15, 3, 1, 1, 1, [(321, 15)]),
  (false, 28, .iconst 1, 1, 0, 0, 1, []),
  (false, 29, .iadd, 1, 0, 0, 0, []),
  (false, 30, .putfield 15, 3, 1, 1, 1, [(321, 15)]),
  (false, 33, .return_, 1, 0, 0, 0, []),
  (false, 34, .nop, 0, 0, 0, 0, [])]
/-- Letters.addWord -/
def zt_141 : List (Bool × zE) := [
  (false, 0, .iconst 0, 1, 0, 0, 0, []),
  (false, 1, .istore_n 2, 1, 2, 0, 0, []),
  (true, 2, .iload_n 2, 1, 2, 0, 0, []),
  (false, 3, .aload_n 1, 1, 1, 0, 0, []),
  (false, 4, .invokevirtual 19, 3, 202, 1, 1, [(763, 0)]),
  (false, 7, .if_icmp .ge 18, 3, 13, 0, 0, []),
  (false, 10, .aload_n 0, 1, 0, 0, 0, []),
  (false, 11, .aload_n 1, 1, 1, 0, 0, []),
  (false, 12, .iload_n 2, 1, 2, 0, 0, []),
  (false, 13, .invokevirtual 24, 3, 203, 2, 1, [(764, 0)]),
  (false, 16, .invokevirtual 28, 3, 140, 2, 0, [(745, 0)]),
  (false, 19, .iinc 2 1, 3, 2, 0, 1, []),
  (false, 22, .goto (-20), 3, 2, 0, 0, []),
  (false, 25, .return_, 1, 0, 0, 0, []),
  (false, 26, .nop, 0, 0, 0, 0, [])]
/-- Letters.addNumber -/
def zt_142 : List (Bool × zE) := [
  (false, 0, .iload_n 1, 1, 1, 0, 0, []),
  (false, 1, .bipush 10, 2, 0, 0, 10, []),
  (false, 3, .if_icmp .lt 17, 3, 12, 0, 0, []),
  (false, 6, .aload_n 0, 1, 0, 0, 0, []),
  (false, 7, .bipush 48, 2, 0, 0, 48, []),
  (false, 9, .iload_n 1, 1, 1, 0, 0, []),
  (false, 10, .bipush 10, 2, 0, 0, 10, []),
  (false, 12, .idiv, 1, 0, 0, 0, []),
  (false, 13, .bipush 10, 2, 0, 0, 10, []),
  (false, 15, .irem, 1, 0, 0, 0, []),
  (false, 16, .iadd, 1, 0, 0, 0, []),
  (false, 17, .invokevirtual 28, 3, 140, 2, 0, [(745, 0)]),
  (false, 20, .aload_n 0, 1, 0, 0, 0, []),
  (false, 21, .bipush 48, 2, 0, 0, 48, []),
  (false, 23, .iload_n 1, 1, 1, 0, 0, []),
  (false, 24, .bipush 10, 2, 0, 0, 10, []),
  (false, 26, .irem, 1, 0, 0, 0, []),
  (false, 27, .iadd, 1, 0, 0, 0, []),
  (false, 28, .invokevirtual 28, 3, 140, 2, 0, [(745, 0)]),
  (false, 31, .return_, 1, 0, 0, 0, []),
  (false, 32, .nop, 0, 0, 0, 0, [])]
/-- Letters.addOperand -/
def zt_143 : List (Bool × zE) := [
  (false, 0, .iload_n 1, 1, 1, 0, 0, []),
  (false, 1, .invokestatic 32, 3, 44, 1, 1, [(769, 1)]),
  (false, 4, .istore_n 2, 1, 2, 0, 0, []),
  (false, 5, .aload_n 0, 1, 0, 0, 0, []),
  (false, 6, .bipush 32, 2, 0, 0, 32, []),
  (false, 8, .invokevirtual 28, 3, 140, 2, 0, [(745, 0)]),
  (false, 11, .iload_n 2, 1, 2, 0, 0, []),
  (false, 12, .ifCond .ge 11, 3, 12, 0, 0, []),
  (false, 15, .aload_n 0, 1, 0, 0, 0, []),
  (false, 16, .iload_n 1, 1, 1, 0, 0, []),
  (false, 17, .invokevirtual 36, 3, 142, 2, 0, [(749, 0)]),
  (false, 20, .goto 11, 3, 17, 0, 0, []),
  (false, 23, .aload_n 0, 1, 0, 0, 0, []),
  (false, 24, .bipush 97, 2, 0, 0, 97, []),
  (false, 26, .iload_n 2, 1, 2, 0, 0, []),
  (false, 27, .iadd, 1, 0, 0, 0, []),
  (false, 28, .invokevirtual 28, 3, 140, 2, 0, [(745, 0)]),
  (false, 31, .return_, 1, 0, 0, 0, []),
  (false, 32, .nop, 0, 0, 0, 0, [])]
/-- Letters.addPlace -/
def zt_144 : List (Bool × zE) := [
  (false, 0, .aload_n 0, 1, 0, 0, 0, []),
  (false, 1, .bipush 112, 2, 0, 0, 112, []),
  (false, 3, .invokevirtual 28, 3, 140, 2, 0, [(745, 0)]),
  (false, 6, .aload_n 0, 1, 0, 0, 0, []),
  (false, 7, .iload_n 1, 1, 1, 0, 0, []),
  (false, 8, .invokevirtual 36, 3, 142, 2, 0, [(749, 0)]),
  (false, 11, .return_, 1, 0, 0, 0, []),
  (false, 12, .nop, 0, 0, 0, 0, [])]
/-- Letters.writePoint -/
def zt_145 : List (Bool × zE) := [
  (false, 0, .aload_n 0, 1, 0, 0, 0, []),
  (false, 1, .iconst 0, 1, 0, 0, 0, []),
  (false, 2, .putfield 15, 3, 1, 1, 1, [(321, 15)]),
  (false, 5, .aload_n 1, 1, 1, 0, 0, []),
  (false, 6, .iload_n 2, 1, 2, 0, 0, []),
  (false, 7, .invokevirtual 39, 3, 196, 2, 1, [(740, 0)]),
  (false, 10, .ifCond .ne 4, 3, 8, 0, 0, []),
  (false, 13, .return_, 1, 0, 0, 0, []),
  (false, 14, .aload_n 0, 1, 0, 0, 0, []),
  (false, 15, .iload_n 2, 1, 2, 0, 0, []),
  (false, 16, .invokevirtual 45, 3, 144, 2, 0, [(741, 0)]),
  (false, 19, .aload_n 0, 1, 0, 0, 0, []),
  (false, 20, .bipush 58, 2, 0, 0, 58, []),
  (false, 22, .invokevirtual 28, 3, 140, 2, 0, [(745, 0)]),
  (false, 25, .iconst 0, 1, 0, 0, 0, []),
  (false, 26, .istore_n 3, 1, 3, 0, 0, []),
  (true, 27, .iload_n 3, 1, 3, 0, 0, []),
  (false, 28, .aload_n 1, 1, 1, 0, 0, []),
  (false, 29, .getfield 48, 3, 8, 1, 1, [(154, 48)]),
  (false, 32, .iload_n 2, 1, 2, 0, 0, []),
  (false, 33, .iaload, 1, 0, 0, 0, []),
  (false, 34, .if_icmp .ge 28, 3, 36, 0, 0, []),
  (false, 37, .aload_n 0, 1, 0, 0, 0, []),
  (false, 38, .bipush 32, 2, 0, 0, 32, []),
  (false, 40, .invokevirtual 28, 3, 140, 2, 0, [(745, 0)]),
  (false, 43, .aload_n 0, 1, 0, 0, 0, []),
  (false, 44, .aload_n 1, 1, 1, 0, 0, []),
  (false, 45, .aload_n 1, 1, 1, 0, 0, []),
  (false, 46, .getfield 52, 3, 8, 0, 0, [(148, 52)]),
  (false, 49, .iload_n 2, 1, 2, 0, 0, []),
  (false, 50, .iaload, 1, 0, 0, 0, []),
  (false, 51, .iload_n 3, 1, 3, 0, 0, []),
  (false, 52, .iadd, 1, 0, 0, 0, []),
  (false, 53, .invokevirtual 55, 3, 147, 3, 0, [(753, 0)]),
  (false, 56, .iinc 3 1, 3, 3, 0, 1, []),
  (false, 59, .goto (-32), 3, 16, 0, 0, []),
  (false, 62, .aload_n 0, 1, 0, 0, 0, []),
  (false, 63, .bipush 32, 2, 0, 0, 32, []),
  (false, 65, .invokevirtual 28, 3, 140, 2, 0, [(745, 0)]),
  (false, 68, .aload_n 0, 1, 0, 0, 0, []),
  (false, 69, .aload_n 1, 1, 1, 0, 0, []),
  (false, 70, .iload_n 2, 1, 2, 0, 0, []),
  (false, 71, .invokevirtual 59, 3, 148, 3, 0, [(772, 0)]),
  (false, 74, .return_, 1, 0, 0, 0, []),
  (false, 75, .nop, 0, 0, 0, 0, [])]
/-- Letters.writeStep -/
def zt_146 : List (Bool × zE) := [
  (false, 0, .aload_n 0, 1, 0, 0, 0, []),
  (false, 1, .iconst 0, 1, 0, 0, 0, []),
  (false, 2, .putfield 15, 3, 1, 1, 1, [(321, 15)]),
  (false, 5, .aload_n 0, 1, 0, 0, 0, []),
  (false, 6, .aload_n 1, 1, 1, 0, 0, []),
  (false, 7, .iload_n 2, 1, 2, 0, 0, []),
  (false, 8, .invokevirtual 55, 3, 147, 3, 0, [(753, 0)]),
  (false, 11, .return_, 1, 0, 0, 0, []),
  (false, 12, .nop, 0, 0, 0, 0, [])]
/-- Letters.addStep -/
def zt_147 : List (Bool × zE) := [
  (false, 0, .aload_n 1, 1, 1, 0, 0, []),
  (false, 1, .iload_n 2, 1, 2, 0, 0, []),
  (false, 2, .iconst 0, 1, 0, 0, 0, []),
  (false, 3, .invokevirtual 62, 3, 199, 3, 1, [(757, 0)]),
  (false, 6, .iconst 1, 1, 0, 0, 1, []),
  (false, 7, .if_icmp .ne 22, 3, 16, 0, 0, []),
  (false, 10, .aload_n 0, 1, 0, 0, 0, []),
  (false, 11, .ldc 66, 2, 1002, 1, 758, []),
  (false, 13, .invokevirtual 68, 3, 141, 2, 0, [(759, 0)]),
  (false, 16, .aload_n 0, 1, 0, 0, 0, []),
  (false, 17, .aload_n 1, 1, 1, 0, 0, []),
  (false, 18, .iload_n 2, 1, 2, 0, 0, []),
  (false, 19, .iconst 2, 1, 0, 0, 2, []),
  (false, 20, .invokevirtual 62, 3, 199, 3, 1, [(757, 0)]),
  (false, 23, .invokevirtual 72, 3, 143, 2, 0, [(765, 0)]),
  (false, 26, .goto 61, 3, 49, 0, 0, []),
  (false, 29, .aload_n 0, 1, 0, 0, 0, []),
  (false, 30, .ldc 75, 2, 1010, 1, 770, []),
  (false, 32, .invokevirtual 68, 3, 141, 2, 0, [(759, 0)]),
  (false, 35, .aload_n 0, 1, 0, 0, 0, []),
  (false, 36, .bipush 97, 2, 0, 0, 97, []),
  (false, 38, .aload_n 1, 1, 1, 0, 0, []),
  (false, 39, .iload_n 2, 1, 2, 0, 0, []),
  (false, 40, .iconst 1, 1, 0, 0, 1, []),
  (false, 41, .invokevirtual 62, 3, 199, 3, 1, [(757, 0)]),
  (false, 44, .iadd, 1, 0, 0, 0, []),
  (false, 45, .invokevirtual 28, 3, 140, 2, 0, [(745, 0)]),
  (false, 48, .aload_n 0, 1, 0, 0, 0, []),
  (false, 49, .aload_n 1, 1, 1, 0, 0, []),
  (false, 50, .iload_n 2, 1, 2, 0, 0, []),
  (false, 51, .iconst 2, 1, 0, 0, 2, []),
  (false, 52, .invokevirtual 62, 3, 199, 3, 1, [(757, 0)]),
  (false, 55, .invokevirtual 72, 3, 143, 2, 0, [(765, 0)]),
  (false, 58, .aload_n 0, 1, 0, 0, 0, []),
  (false, 59, .bipush 32, 2, 0, 0, 32, []),
  (false, 61, .invokevirtual 28, 3, 140, 2, 0, [(745, 0)]),
  (false, 64, .aload_n 0, 1, 0, 0, 0, []),
  (false, 65, .aload_n 1, 1, 1, 0, 0, []),
  (false, 66, .iload_n 2, 1, 2, 0, 0, []),
  (false, 67, .iconst 3, 1, 0, 0, 3, []),
  (false, 68, .invokevirtual 62, 3, 199, 3, 1, [(757, 0)]),
  (false, 71, .invokestatic 77, 3, 48, 1, 1, [(771, 1)]),
  (false, 74, .invokevirtual 68, 3, 141, 2, 0, [(759, 0)]),
  (false, 77, .aload_n 0, 1, 0, 0, 0, []),
  (false, 78, .aload_n 1, 1, 1, 0, 0, []),
  (false, 79, .iload_n 2, 1, 2, 0, 0, []),
  (false, 80, .iconst 4, 1, 0, 0, 4, []),
  (false, 81, .invokevirtual 62, 3, 199, 3, 1, [(757, 0)]),
  (false, 84, .invokevirtual 72, 3, 143, 2, 0, [(765, 0)]),
  (false, 87, .aload_n 0, 1, 0, 0, 0, []),
  (false, 88, .bipush 59, 2, 0, 0, 59, []),
  (false, 90, .invokevirtual 28, 3, 140, 2, 0, [(745, 0)]),
  (false, 93, .return_, 1, 0, 0, 0, []),
  (false, 94, .nop, 0, 0, 0, 0, [])]
/-- Letters.addEnding -/
def zt_148 : List (Bool × zE) := [
  (false, 0, .aload_n 1, 1, 1, 0, 0, []),
  (false, 1, .iload_n 2, 1, 2, 0, 0, []),
  (false, 2, .iconst 2, 1, 0, 0, 2, []),
  (false, 3, .invokevirtual 81, 3, 197, 3, 1, [(776, 0)]),
  (false, 6, .istore_n 3, 1, 3, 0, 0, []),
  (false, 7, .iload_n 3, 1, 3, 0, 0, []),
  (false, 8, .iconst 2, 1, 0, 0, 2, []),
  (false, 9, .if_icmp .ne 12, 3, 12, 0, 0, []),
  (false, 12, .aload_n 0, 1, 0, 0, 0, []),
  (false, 13, .ldc 84, 2, 1007, 1, 780, []),
  (false, 15, .invokevirtual 68, 3, 141, 2, 0, [(759, 0)]),
  (false, 18, .goto 77, 3, 53, 0, 0, []),
  (false, 21, .iload_n 3, 1, 3, 0, 0, []),
  (false, 22, .ifCond .ne 22, 3, 24, 0, 0, []),
  (false, 25, .aload_n 0, 1, 0, 0, 0, []),
  (false, 26, .ldc 86, 2, 1011, 1, 781, []),
  (false, 28, .invokevirtual 68, 3, 141, 2, 0, [(759, 0)]),
  (false, 31, .aload_n 0, 1, 0, 0, 0, []),
  (false, 32, .aload_n 1, 1, 1, 0, 0, []),
  (false, 33, .iload_n 2, 1, 2, 0, 0, []),
  (false, 34, .iconst 3, 1, 0, 0, 3, []),
  (false, 35, .invokevirtual 81, 3, 197, 3, 1, [(776, 0)]),
  (false, 38, .invokevirtual 45, 3, 144, 2, 0, [(741, 0)]),
  (false, 41, .goto 54, 3, 53, 0, 0, []),
  (false, 44, .aload_n 0, 1, 0, 0, 0, []),
  (false, 45, .ldc 88, 2, 1012, 1, 782, []),
  (false, 47, .invokevirtual 68, 3, 141, 2, 0, [(759, 0)]),
  (false, 50, .aload_n 0, 1, 0, 0, 0, []),
  (false, 51, .bipush 97, 2, 0, 0, 97, []),
  (false, 53, .aload_n 1, 1, 1, 0, 0, []),
  (false, 54, .iload_n 2, 1, 2, 0, 0, []),
  (false, 55, .iconst 5, 1, 0, 0, 5, []),
  (false, 56, .invokevirtual 81, 3, 197, 3, 1, [(776, 0)]),
  (false, 59, .iadd, 1, 0, 0, 0, []),
  (false, 60, .invokevirtual 28, 3, 140, 2, 0, [(745, 0)]),
  (false, 63, .aload_n 0, 1, 0, 0, 0, []),
  (false, 64, .bipush 32, 2, 0, 0, 32, []),
  (false, 66, .invokevirtual 28, 3, 140, 2, 0, [(745, 0)]),
  (false, 69, .aload_n 0, 1, 0, 0, 0, []),
  (false, 70, .aload_n 1, 1, 1, 0, 0, []),
  (false, 71, .iload_n 2, 1, 2, 0, 0, []),
  (false, 72, .iconst 3, 1, 0, 0, 3, []),
  (false, 73, .invokevirtual 81, 3, 197, 3, 1, [(776, 0)]),
  (false, 76, .invokevirtual 45, 3, 144, 2, 0, [(741, 0)]),
  (false, 79, .aload_n 0, 1, 0, 0, 0, []),
  (false, 80, .bipush 32, 2, 0, 0, 32, []),
  (false, 82, .invokevirtual 28, 3, 140, 2, 0, [(745, 0)]),
  (false, 85, .aload_n 0, 1, 0, 0, 0, []),
  (false, 86, .aload_n 1, 1, 1, 0, 0, []),
  (false, 87, .iload_n 2, 1, 2, 0, 0, []),
  (false, 88, .iconst 4, 1, 0, 0, 4, []),
  (false, 89, .invokevirtual 81, 3, 197, 3, 1, [(776, 0)]),
  (false, 92, .invokevirtual 45, 3, 144, 2, 0, [(741, 0)]),
  (false, 95, .aload_n 0, 1, 0, 0, 0, []),
  (false, 96, .bipush 59, 2, 0, 0, 59, []),
  (false, 98, .invokevirtual 28, 3, 140, 2, 0, [(745, 0)]),
  (false, 101, .return_, 1, 0, 0, 0, []),
  (false, 102, .nop, 0, 0, 0, 0, [])]
/-- Letters.find -/
def zt_149 : List (Bool × zE) := [
  (false, 0, .iload_n 2, 1, 2, 0, 0, []),
  (false, 1, .istore_n 3, 1, 3, 0, 0, []),
  (true, 2, .iload_n 3, 1, 3, 0, 0, []),
  (false, 3, .aload_n 0, 1, 0, 0, 0, []),
  (false, 4, .getfield 15, 3, 1, 1, 1, [(321, 15)]),
  (false, 7, .aload_n 1, 1, 1, 0, 0, []),
  (false, 8, .getfield 15, 3, 1, 1, 1, [(321, 15)]),
  (false, 11, .isub, 1, 0, 0, 0, []),
  (false, 12, .if_icmp .gt 20, 3, 18, 0, 0, []),
  (false, 15, .aload_n 0, 1, 0, 0, 0, []),
  (false, 16, .aload_n 1, 1, 1, 0, 0, []),
  (false, 17, .iload_n 3, 1, 3, 0, 0, []),
  (false, 18, .invokevirtual 90, 3, 150, 3, 1, [(852, 0)]),
  (false, 21, .ifCond .eq 5, 3, 16, 0, 0, []),
  (false, 24, .iload_n 3, 1, 3, 0, 0, []),
  (false, 25, .ireturn, 1, 0, 0, 0, []),
  (false, 26, .iinc 3 1, 3, 3, 0, 1, []),
  (false, 29, .goto (-27), 3, 2, 0, 0, []),
  (false, 32, .bipush (-4), 2, 0, 0, (-4), []),
  (false, 34, .ireturn, 1, 0, 0, 0, []),
  (false, 35, .nop, 0, 0, 0, 0, [])]
/-- Letters.hasAt -/
def zt_150 : List (Bool × zE) := [
  (false, 0, .iconst 0, 1, 0, 0, 0, []),
  (false, 1, .istore_n 3, 1, 3, 0, 0, []),
  (true, 2, .iload_n 3, 1, 3, 0, 0, []),
  (false, 3, .aload_n 1, 1, 1, 0, 0, []),
  (false, 4, .getfield 15, 3, 1, 1, 1, [(321, 15)]),
  (false, 7, .if_icmp .ge 26, 3, 19, 0, 0, []),
  (false, 10, .aload_n 0, 1, 0, 0, 0, []),
  (false, 11, .iload_n 2, 1, 2, 0, 0, []),
  (false, 12, .iload_n 3, 1, 3, 0, 0, []),
  (false, 13, .iadd, 1, 0, 0, 0, []),
  (false, 14, .invokevirtual 94, 3, 139, 2, 1, [(856, 0)]),
  (false, 17, .aload_n 1, 1, 1, 0, 0, []),
  (false, 18, .iload_n 3, 1, 3, 0, 0, []),
  (false, 19, .invokevirtual 94, 3, 139, 2, 1, [(856, 0)]),
  (false, 22, .if_icmp .eq 5, 3, 17, 0, 0, []),
  (false, 25, .iconst 0, 1, 0, 0, 0, []),
  (false, 26, .freturn, 1, 0, 0, 0, []),
  (false, 27, .iinc 3 1, 3, 3, 0, 1, []),
  (false, 30, .goto (-28), 3, 2, 0, 0, []),
  (false, 33, .iconst 1, 1, 0, 0, 1, []),
  (false, 34, .freturn, 1, 0, 0, 0, []),
  (false, 35, .nop, 0, 0, 0, 0, [])]
/-- Points.find -/
def zt_151 : List (Bool × zE) := [
  (false, 0, .aload_n 0, 1, 0, 0, 0, []),
  (false, 1, .getfield 12, 3, 2, 0, 0, [(283, 12)]),
  (false, 4, .aload_n 1, 1, 1, 0, 0, []),
  (false, 5, .invokevirtual 43, 3, 133, 2, 0, [(643, 0)]),
  (false, 8, .aload_n 0, 1, 0, 0, 0, []),
  (false, 9, .getfield 23, 3, 2, 1, 1, [(285, 23)]),
  (false, 12, .invokevirtual 47, 3, 191, 1, 0, [(680, 0)]),
  (false, 15, .aload_n 0, 1, 0, 0, 0, []),
  (false, 16, .iconst 0, 1, 0, 0, 0, []),
  (false, 17, .putstatic 50, 3, 2, 5, 5, [(293, 50)]),
  (false, 20, .aload_n 1, 1, 1, 0, 0, []),
  (false, 21, .getfield 54, 3, 3, 0, 0, [(242, 54)]),
  (false, 24, .getfield 57, 3, 8, 7, 7, [(171, 57)]),
  (false, 27, .ifCond .ne 4, 3, 15, 0, 0, []),
  (false, 30, .return_, 1, 0, 0, 0, []),
  (false, 31, .iconst 0, 1, 0, 0, 0, []),
  (false, 32, .istore_n 2, 1, 2, 0, 0, []),
  (true, 33, .iload_n 2, 1, 2, 0, 0, []),
  (false, 34, .bipush 6, 2, 0, 0, 6, []),
  (false, 36, .if_icmp .ge 25, 3, 32, 0, 0, []),
  (false, 39, .aload_n 0, 1, 0, 0, 0, []),
  (false, 40, .getfield 37, 3, 2, 6, 6, [(295, 37)]),
  (false, 43, .iload_n 2, 1, 2, 0, 0, []),
  (false, 44, .iconst 0, 1, 0, 0, 0, []),
  (false, 45, .aload_n 1, 1, 1, 0, 0, []),
  (false, 46, .getfield 61, 3, 3, 1, 1, [(246, 61)]),
  (false, 49, .iload_n 2, 1, 2, 0, 0, []),
  (false, 50, .iaload, 1, 0, 0, 0, []),
  (false, 51, .monitorenter, 3, 0, 0, 0, [(681, 64)]),
  (false, 54, .iastore, 1, 0, 0, 0, []),
  (false, 55, .iinc 2 1, 3, 2, 0, 1, []),
  (false, 58, .goto (-25), 3, 17, 0, 0, []),
  (false, 61, .aload_n 0, 1, 0, 0, 0, []),
  (false, 62, .aload_n 1, 1, 1, 0, 0, []),
  (false, 63, .iconst 0, 1, 0, 0, 0, []),
  (false, 64, .bipush (-4), 2, 0, 0, (-4), []),
  (false, 66, .invokevirtual 70, 3, 152, 4, 1, [(684, 0)]),
  (false, 69, .pop, 1, 0, 0, 0, []),
  (false, 70, .iconst 0, 1, 0, 0, 0, []),
  (false, 71, .istore_n 2, 1, 2, 0, 0, []),
  (true, 72, .iload_n 2, 1, 2, 0, 0, []),
  (false, 73, .bipush 40, 2, 0, 0, 40, []),
  (false, 75, .if_icmp .ge 33, 3, 57, 0, 0, []),
  (false, 78, .iload_n 2, 1, 2, 0, 0, []),
  (false, 79, .aload_n 0, 1, 0, 0, 0, []),
  (false, 80, .getfield 23, 3, 2, 1, 1, [(285, 23)]),
  (false, 83, .getfield 57, 3, 8, 7, 7, [(171, 57)]),
  (false, 86, .if_icmp .ge 22, 3, 57, 0, 0, []),
  (false, 89, .aload_n 0, 1, 0, 0, 0, []),
  (false, 90, .getfield 50, 3, 2, 5, 5, [(293, 50)]),
  (false, 93, .ifCond .ne 15, 3, 57, 0, 0, []),
  (false, 96, .aload_n 0, 1, 0, 0, 0, []),
  (false, 97, .aload_n 1, 1, 1, 0, 0, []),
  (false, 98, .iload_n 2, 1, 2, 0, 0, []),
  (false, 99, .invokevirtual 74, 3, 155, 3, 0, [(702, 0)]),
  (false, 102, .iinc 2 1, 3, 2, 0, 1, []),
  (false, 105, .goto (-33), 3, 40, 0, 0, []),
  (false, 108, .aload_n 0, 1, 0, 0, 0, []),
  (false, 109, .getfield 50, 3, 2, 5, 5, [(293, 50)]),
  (false, 112, .ifCond .eq 10, 3, 63, 0, 0, []),
  (false, 115, .aload_n 0, 1, 0, 0, 0, []),
  (false, 116, .getfield 23, 3, 2, 1, 1, [(285, 23)]),
  (false, 119, .invokevirtual 47, 3, 191, 1, 0, [(680, 0)]),
  (false, 122, .return_, 1, 0, 0, 0, []),
  (false, 123, .nop, 0, 0, 0, 0, [])]
/-- Points.meet -/
def zt_152 : List (Bool × zE) := [
  (false, 0, .aload_n 0, 1, 0, 0, 0, []),
  (false, 1, .iload_n 2, 1, 2, 0, 0, []),
  (false, 2, .aload_n 1, 1, 1, 0, 0, []),
  (false, 3, .getfield 78, 3, 3, 2, 2, [(248, 78)]),
  (false, 6, .invokevirtual 81, 3, 153, 3, 0, [(688, 0)]),
  (false, 9, .aload_n 0, 1, 0, 0, 0, []),
  (false, 10, .iload_n 2, 1, 2, 0, 0, []),
  (false, 11, .invokevirtual 84, 3, 154, 2, 1, [(697, 0)]),
  (false, 14, .istore 4, 2, 4, 0, 0, []),
  (false, 16, .iload 4, 2, 4, 0, 0, []),
  (false, 18, .ifCond .lt 26, 3, 24, 0, 0, []),
  (false, 21, .aload_n 0, 1, 0, 0, 0, []),
  (false, 22, .getfield 31, 3, 2, 3, 3, [(289, 31)]),
  (false, 25, .iload 4, 2, 4, 0, 0, []),
  (false, 27, .iaload, 1, 0, 0, 0, []),
  (false, 28, .bipush (-4), 2, 0, 0, (-4), []),
  (false, 30, .if_icmp .ne 11, 3, 22, 0, 0, []),
  (false, 33, .aload_n 0, 1, 0, 0, 0, []),
  (false, 34, .getfield 31, 3, 2, 3, 3, [(289, 31)]),
  (false, 37, .iload 4, 2, 4, 0, 0, []),
  (false, 39, .iload_n 3, 1, 3, 0, 0, []),
  (false, 40, .iastore, 1, 0, 0, 0, []),
  (false, 41, .iload 4, 2, 4, 0, 0, []),
  (false, 43, .ireturn, 1, 0, 0, 0, []),
  (false, 44, .aload_n 0, 1, 0, 0, 0, []),
  (false, 45, .getfield 23, 3, 2, 1, 1, [(285, 23)]),
  (false, 48, .invokevirtual 88, 3, 192, 1, 1, [(701, 0)]),
  (false, 51, .ifCond .ne 11, 3, 33, 0, 0, []),
  (false, 54, .aload_n 0, 1, 0, 0, 0, []),
  (false, 55, .iconst 1, 1, 0, 0, 1, []),
  (false, 56, .putstatic 50, 3, 2, 5, 5, [(293, 50)]),
  (false, 59, .bipush (-4), 2, 0, 0, (-4), []),
  (false, 61, .ireturn, 1, 0, 0, 0, []),
  (false, 62, .aload_n 0, 1, 0, 0, 0, []),
  (false, 63, .getfield 23, 3, 2, 1, 1, [(285, 23)]),
  (false, 66, .getfield 57, 3, 8, 7, 7, [(171, 57)]),
  (false, 69, .iconst 1, 1, 0, 0, 1, []),
  (false, 70, .isub, 1, 0, 0, 0, []),
  (false, 71, .istore 4, 2, 4, 0, 0, []),
  (false, 73, .aload_n 0, 1, 0, 0, 0, []),
  (false, 74, .getfield 27, 3, 2, 2, 2, [(287, 27)]),
  (false, 77, .iload 4, 2, 4, 0, 0, []),
  (false, 79, .iload_n 2, 1, 2, 0, 0, []),
  (false, 80, .iastore, 1, 0, 0, 0, []),
  (false, 81, .aload_n 0, 1, 0, 0, 0, []),
  (false, 82, .getfield 31, 3, 2, 3, 3, [(289, 31)]),
  (false, 85, .iload 4, 2, 4, 0, 0, []),
  (false, 87, .iload_n 3, 1, 3, 0, 0, []),
  (false, 88, .iastore, 1, 0, 0, 0, []),
  (false, 89, .iconst 0, 1, 0, 0, 0, []),
  (false, 90, .istore 5, 2, 5, 0, 0, []),
  (true, 92, .iload 5, 2, 5, 0, 0, []),
  (false, 94, .bipush 6, 2, 0, 0, 6, []),
  (false, 96, .if_icmp .ge 29, 3, 68, 0, 0, []),
  (false, 99, .aload_n 0, 1, 0, 0, 0, []),
  (false, 100, .getfield 34, 3, 2, 4, 4, [(291, 34)]),
  (false, 103, .iload 4, 2, 4, 0, 0, []),
  (false, 105, .bipush 6, 2, 0, 0, 6, []),
  (false, 107, .imul, 1, 0, 0, 0, []),
  (false, 108, .iload 5, 2, 5, 0, 0, []),
  (false, 110, .iadd, 1, 0, 0, 0, []),
  (false, 111, .aload_n 0, 1, 0, 0, 0, []),
  (false, 112, .getfield 40, 3, 2, 7, 7, [(296, 40)]),
  (false, 115, .iload 5, 2, 5, 0, 0, []),
  (false, 117, .iaload, 1, 0, 0, 0, []),
  (false, 118, .iastore, 1, 0, 0, 0, []),
  (false, 119, .iinc 5 1, 3, 5, 0, 1, []),
  (false, 122, .goto (-30), 3, 51, 0, 0, []),
  (false, 125, .iload 4, 2, 4, 0, 0, []),
  (false, 127, .ireturn, 1, 0, 0, 0, []),
  (false, 128, .nop, 0, 0, 0, 0, [])]
/-- Points.seek -/
def zt_153 : List (Bool × zE) := [
  (false, 0, .iload_n 2, 1, 2, 0, 0, []),
  (false, 1, .ifCond .ne 9, 3, 4, 0, 0, []),
  (false, 4, .invokestatic 92, 3, 42, 0, 1, [(692, 1)]),
  (false, 7, .goto 11, 3, 8, 0, 0, []),
  (false, 10, .aload_n 0, 1, 0, 0, 0, []),
  (false, 11, .getfield 12, 3, 2, 0, 0, [(283, 12)]),
  (false, 14, .iload_n 1, 1, 1, 0, 0, []),
  (false, 15, .invokevirtual 96, 3, 137, 2, 1, [(693, 0)]),
  (false, 18, .istore_n 3, 1, 3, 0, 0, []),
  (false, 19, .iload_n 3, 1, 3, 0, 0, []),
  (false, 20, .aload_n 0, 1, 0, 0, 0, []),
  (false, 21, .getfield 12, 3, 2, 0, 0, [(283, 12)]),
  (false, 24, .getfield 99, 3, 0, 1, 1, [(273, 99)]),
  (false, 27, .iconst (-1), 1, 0, 0, (-1), []),
  (false, 28, .ixor, 1, 0, 0, 0, []),
  (false, 29, .iand, 1, 0, 0, 0, []),
  (false, 30, .istore_n 3, 1, 3, 0, 0, []),
  (false, 31, .iconst 0, 1, 0, 0, 0, []),
  (false, 32, .istore 4, 2, 4, 0, 0, []),
  (true, 34, .iload 4, 2, 4, 0, 0, []),
  (false, 36, .bipush 6, 2, 0, 0, 6, []),
  (false, 38, .if_icmp .ge 36, 3, 38, 0, 0, []),
  (false, 41, .aload_n 0, 1, 0, 0, 0, []),
  (false, 42, .getfield 40, 3, 2, 7, 7, [(296, 40)]),
  (false, 45, .iload 4, 2, 4, 0, 0, []),
  (false, 47, .iload_n 3, 1, 3, 0, 0, []),
  (false, 48, .iload 4, 2, 4, 0, 0, []),
  (false, 50, .invokestatic 102, 3, 43, 2, 1, [(694, 1)]),
  (false, 53, .ifCond .eq 13, 3, 34, 0, 0, []),
  (false, 56, .aload_n 0, 1, 0, 0, 0, []),
  (false, 57, .getfield 37, 3, 2, 6, 6, [(295, 37)]),
  (false, 60, .iload 4, 2, 4, 0, 0, []),
  (false, 62, .iaload, 1, 0, 0, 0, []),
  (false, 63, .goto 4, 3, 35, 0, 0, []),
  (false, 66, .iconst 0, 1, 0, 0, 0, []),
  (false, 67, .iastore, 1, 0, 0, 0, []),
  (false, 68, .iinc 4 1, 3, 4, 0, 1, []),
  (false, 71, .goto (-37), 3, 19, 0, 0, []),
  (false, 74, .return_, 1, 0, 0, 0, []),
  (false, 75, .nop, 0, 0, 0, 0, [])]
/-- Points.findAlike -/
def zt_154 : List (Bool × zE) := [
  (false, 0, .iconst 0, 1, 0, 0, 0, []),
  (false, 1, .istore_n 2, 1, 2, 0, 0, []),
  (true, 2, .iload_n 2, 1, 2, 0, 0, []),
  (false, 3, .aload_n 0, 1, 0, 0, 0, []),
  (false, 4, .getfield 23, 3, 2, 1, 1, [(285, 23)]),
  (false, 7, .getfield 57, 3, 8, 7, 7, [(171, 57)]),
  (false, 10, .if_icmp .ge 79, 3, 49, 0, 0, []),
  (false, 13, .aload_n 0, 1, 0, 0, 0, []),
  (false, 14, .getfield 27, 3, 2, 2, 2, [(287, 27)]),
  (false, 17, .iload_n 2, 1, 2, 0, 0, []),
  (false, 18, .iaload, 1, 0, 0, 0, []),
  (false, 19, .iload_n 1, 1, 1, 0, 0, []),
  (false, 20, .if_icmp .ne 7, 3, 15, 0, 0, []),
  (false, 23, .iconst 1, 1, 0, 0, 1, []),
  (false, 24, .goto 4, 3, 16, 0, 0, []),
  (false, 27, .iconst 0, 1, 0, 0, 0, []),
  (false, 28, .istore_n 3, 1, 3, 0, 0, []),
  (false, 29, .iconst 0, 1, 0, 0, 0, []),
  (false, 30, .istore 4, 2, 4, 0, 0, []),
  (true, 32, .iload 4, 2, 4, 0, 0, []),
  (false, 34, .bipush 6, 2, 0, 0, 6, []),
  (false, 36, .if_icmp .ge 41, 3, 43, 0, 0, []),
  (false, 39, .iload_n 3, 1, 3, 0, 0, []),
  (false, 40, .ifCond .eq 37, 3, 43, 0, 0, []),
  (false, 43, .aload_n 0, 1, 0, 0, 0, []),
  (false, 44, .getfield 34, 3, 2, 4, 4, [(291, 34)]),
  (false, 47, .iload_n 2, 1, 2, 0, 0, []),
  (false, 48, .bipush 6, 2, 0, 0, 6, []),
  (false, 50, .imul, 1, 0, 0, 0, []),
  (false, 51, .iload 4, 2, 4, 0, 0, []),
  (false, 53, .iadd, 1, 0, 0, 0, []),
  (false, 54, .iaload, 1, 0, 0, 0, []),
  (false, 55, .aload_n 0, 1, 0, 0, 0, []),
  (false, 56, .getfield 40, 3, 2, 7, 7, [(296, 40)]),
  (false, 59, .iload 4, 2, 4, 0, 0, []),
  (false, 61, .iaload, 1, 0, 0, 0, []),
  (false, 62, .if_icmp .ne 7, 3, 39, 0, 0, []),
  (false, 65, .iconst 1, 1, 0, 0, 1, []),
  (false, 66, .goto 4, 3, 40, 0, 0, []),
  (false, 69, .iconst 0, 1, 0, 0, 0, []),
  (false, 70, .istore_n 3, 1, 3, 0, 0, []),
  (false, 71, .iinc 4 1, 3, 4, 0, 1, []),
  (false, 74, .goto (-42), 3, 19, 0, 0, []),
  (false, 77, .iload_n 3, 1, 3, 0, 0, []),
  (false, 78, .ifCond .eq 5, 3, 47, 0, 0, []),
  (false, 81, .iload_n 2, 1, 2, 0, 0, []),
  (false, 82, .ireturn, 1, 0, 0, 0, []),
  (false, 83, .iinc 2 1, 3, 2, 0, 1, []),
  (false, 86, .goto (-84), 3, 2, 0, 0, []),
  (false, 89, .bipush (-4), 2, 0, 0, (-4), []),
  (false, 91, .ireturn, 1, 0, 0, 0, []),
  (false, 92, .nop, 0, 0, 0, 0, [])]
/-- Points.specialise -/
def zt_155 : List (Bool × zE) := [
  (false, 0, .iconst 0, 1, 0, 0, 0, []),
  (false, 1, .istore_n 3, 1, 3, 0, 0, []),
  (true, 2, .iload_n 3, 1, 3, 0, 0, []),
  (false, 3, .bipush 6, 2, 0, 0, 6, []),
  (false, 5, .if_icmp .ge 26, 3, 19, 0, 0, []),
  (false, 8, .aload_n 0, 1, 0, 0, 0, []),
  (false, 9, .getfield 37, 3, 2, 6, 6, [(295, 37)]),
  (false, 12, .iload_n 3, 1, 3, 0, 0, []),
  (false, 13, .aload_n 0, 1, 0, 0, 0, []),
  (false, 14, .getfield 34, 3, 2, 4, 4, [(291, 34)]),
  (false, 17, .iload_n 2, 1, 2, 0, 0, []),
  (false, 18, .bipush 6, 2, 0, 0, 6, []),
  (false, 20, .imul, 1, 0, 0, 0, []),
  (false, 21, .iload_n 3, 1, 3, 0, 0, []),
  (false, 22, .iadd, 1, 0, 0, 0, []),
  (false, 23, .iaload, 1, 0, 0, 0, []),
  (false, 24, .iastore, 1, 0, 0, 0, []),
  (false, 25, .iinc 3 1, 3, 3, 0, 1, []),
  (false, 28, .goto (-26), 3, 2, 0, 0, []),
  (false, 31, .aload_n 0, 1, 0, 0, 0, []),
  (false, 32, .getfield 27, 3, 2, 2, 2, [(287, 27)]),
  (false, 35, .iload_n 2, 1, 2, 0, 0, []),
  (false, 36, .iaload, 1, 0, 0, 0, []),
  (false, 37, .istore_n 3, 1, 3, 0, 0, []),
  (false, 38, .aload_n 1, 1, 1, 0, 0, []),
  (false, 39, .getfield 54, 3, 3, 0, 0, [(242, 54)]),
  (false, 42, .iload_n 3, 1, 3, 0, 0, []),
  (false, 43, .invokevirtual 106, 3, 196, 2, 1, [(706, 0)]),
  (false, 46, .ifCond .ne 4, 3, 30, 0, 0, []),
  (false, 49, .return_, 1, 0, 0, 0, []),
  (false, 50, .aload_n 0, 1, 0, 0, 0, []),
  (false, 51, .getfield 23, 3, 2, 1, 1, [(285, 23)]),
  (false, 54, .iload_n 2, 1, 2, 0, 0, []),
  (false, 55, .invokevirtual 110, 3, 193, 2, 0, [(707, 0)]),
  (false, 58, .aload_n 1, 1, 1, 0, 0, []),
  (false, 59, .getfield 54, 3, 3, 0, 0, [(242, 54)]),
  (false, 62, .getfield 114, 3, 8, 0, 0, [(146, 114)]),
  (false, 65, .iload_n 3, 1, 3, 0, 0, []),
  (false, 66, .iaload, 1, 0, 0, 0, []),
  (false, 67, .aload_n 1, 1, 1, 0, 0, []),
  (false, 68, .getfield 54, 3, 3, 0, 0, [(242, 54)]),
  (false, 71, .getfield 117, 3, 8, 1, 1, [(152, 117)]),
  (false, 74, .iload_n 3, 1, 3, 0, 0, []),
  (false, 75, .iaload, 1, 0, 0, 0, []),
  (false, 76, .iadd, 1, 0, 0, 0, []),
  (false, 77, .istore 4, 2, 4, 0, 0, []),
  (false, 79, .aload_n 1, 1, 1, 0, 0, []),
  (false, 80, .getfield 54, 3, 3, 0, 0, [(242, 54)]),
  (false, 83, .getfield 114, 3, 8, 0, 0, [(146, 114)]),
  (false, 86, .iload_n 3, 1, 3, 0, 0, []),
  (false, 87, .iaload, 1, 0, 0, 0, []),
  (false, 88, .istore 5, 2, 5, 0, 0, []),
  (true, 90, .iload 5, 2, 5, 0, 0, []),
  (false, 92, .iload 4, 2, 4, 0, 0, []),
  (false, 94, .if_icmp .ge 20, 3, 63, 0, 0, []),
  (false, 97, .aload_n 0, 1, 0, 0, 0, []),
  (false, 98, .aload_n 1, 1, 1, 0, 0, []),
  (false, 99, .getfield 54, 3, 3, 0, 0, [(242, 54)]),
  (false, 102, .iload_n 2, 1, 2, 0, 0, []),
  (false, 103, .iload 5, 2, 5, 0, 0, []),
  (false, 105, .invokevirtual 120, 3, 156, 4, 0, [(708, 0)]),
  (false, 108, .iinc 5 1, 3, 5, 0, 1, []),
  (false, 111, .goto (-21), 3, 52, 0, 0, []),
  (false, 114, .aload_n 0, 1, 0, 0, 0, []),
  (false, 115, .aload_n 1, 1, 1, 0, 0, []),
  (false, 116, .iload_n 2, 1, 2, 0, 0, []),
  (false, 117, .iload_n 3, 1, 3, 0, 0, []),
  (false, 118, .invokevirtual 124, 3, 158, 4, 0, [(726, 0)]),
  (false, 121, .return_, 1, 0, 0, 0, []),
  (false, 122, .nop, 0, 0, 0, 0, [])]
/-- Points.doOrLeave -/
def zt_156 : List (Bool × zE) := [
  (false, 0, .aload_n 1, 1, 1, 0, 0, []),
  (false, 1, .iload_n 3, 1, 3, 0, 0, []),
  (false, 2, .iconst 0, 1, 0, 0, 0, []),
  (false, 3, .invokevirtual 128, 3, 199, 3, 1, [(712, 0)]),
  (false, 6, .istore 4, 2, 4, 0, 0, []),
  (false, 8, .aload_n 1, 1, 1, 0, 0, []),
  (false, 9, .iload_n 3, 1, 3, 0, 0, []),
  (false, 10, .iconst 1, 1, 0, 0, 1, []),
  (false, 11, .invokevirtual 128, 3, 199, 3, 1, [(712, 0)]),
  (false, 14, .istore 5, 2, 5, 0, 0, []),
  (false, 16, .aload_n 1, 1, 1, 0, 0, []),
  (false, 17, .iload_n 3, 1, 3, 0, 0, []),
  (false, 18, .iconst 3, 1, 0, 0, 3, []),
  (false, 19, .invokevirtual 128, 3, 199, 3, 1, [(712, 0)]),
  (false, 22, .istore 6, 2, 6, 0, 0, []),
  (false, 24, .aload_n 0, 1, 0, 0, 0, []),
  (false, 25, .aload_n 1, 1, 1, 0, 0, []),
  (false, 26, .iload_n 3, 1, 3, 0, 0, []),
  (false, 27, .iconst 2, 1, 0, 0, 2, []),
  (false, 28, .invokevirtual 128, 3, 199, 3, 1, [(712, 0)]),
  (false, 31, .invokevirtual 131, 3, 157, 2, 1, [(713, 0)]),
  (false, 34, .istore 7, 2, 7, 0, 0, []),
  (false, 36, .aload_n 0, 1, 0, 0, 0, []),
  (false, 37, .aload_n 1, 1, 1, 0, 0, []),
  (false, 38, .iload_n 3, 1, 3, 0, 0, []),
  (false, 39, .iconst 4, 1, 0, 0, 4, []),
  (false, 40, .invokevirtual 128, 3, 199, 3, 1, [(712, 0)]),
  (false, 43, .invokevirtual 131, 3, 157, 2, 1, [(713, 0)]),
  (false, 46, .istore 8, 2, 8, 0, 0, []),
  (false, 48, .iload 4, 2, 4, 0, 0, []),
  (false, 50, .ifCond .ne 45, 3, 49, 0, 0, []),
  (false, 53, .iload 5, 2, 5, 0, 0, []),
  (false, 55, .invokestatic 134, 3, 38, 1, 1, [(720, 1)]),
  (false, 58, .ifCond .eq 37, 3, 49, 0, 0, []),
  (false, 61, .aload_n 0, 1, 0, 0, 0, []),
  (false, 62, .getfield 12, 3, 2, 0, 0, [(283, 12)]),
  (false, 65, .getfield 99, 3, 0, 1, 1, [(273, 99)]),
  (false, 68, .iload 5, 2, 5, 0, 0, []),
  (false, 70, .invokestatic 102, 3, 43, 2, 1, [(694, 1)]),
  (false, 73, .ifCond .ne 22, 3, 49, 0, 0, []),
  (false, 76, .aload_n 0, 1, 0, 0, 0, []),
  (false, 77, .getfield 37, 3, 2, 6, 6, [(295, 37)]),
  (false, 80, .iload 5, 2, 5, 0, 0, []),
  (false, 82, .iload 6, 2, 6, 0, 0, []),
  (false, 84, .iload 7, 2, 7, 0, 0, []),
  (false, 86, .iload 8, 2, 8, 0, 0, []),
  (false, 88, .invokestatic 137, 3, 47, 3, 1, [(721, 1)]),
  (false, 91, .iastore, 1, 0, 0, 0, []),
  (false, 92, .goto 22, 3, 59, 0, 0, []),
  (false, 95, .aload_n 0, 1, 0, 0, 0, []),
  (false, 96, .getfield 23, 3, 2, 1, 1, [(285, 23)]),
  (false, 99, .iload_n 2, 1, 2, 0, 0, []),
  (false, 100, .iload 4, 2, 4, 0, 0, []),
  (false, 102, .iload 5, 2, 5, 0, 0, []),
  (false, 104, .iload 7, 2, 7, 0, 0, []),
  (false, 106, .iload 6, 2, 6, 0, 0, []),
  (false, 108, .iload 8, 2, 8, 0, 0, []),
  (false, 110, .invokevirtual 141, 3, 194, 7, 1, [(725, 0)]),
  (false, 113, .pop, 1, 0, 0, 0, []),
  (false, 114, .return_, 1, 0, 0, 0, []),
  (false, 115, .nop, 0, 0, 0, 0, [])]
/-- Points.asKnown -/
def zt_157 : List (Bool × zE) := [
  (false, 0, .iload_n 1, 1, 1, 0, 0, []),
  (false, 1, .invokestatic 145, 3, 44, 1, 1, [(717, 1)]),
  (false, 4, .istore_n 2, 1, 2, 0, 0, []),
  (false, 5, .iload_n 2, 1, 2, 0, 0, []),
  (false, 6, .ifCond .lt 17, 3, 11, 0, 0, []),
  (false, 9, .aload_n 0, 1, 0, 0, 0, []),
  (false, 10, .getfield 12, 3, 2, 0, 0, [(283, 12)]),
  (false, 13, .getfield 99, 3, 0, 1, 1, [(273, 99)]),
  (false, 16, .iload_n 2, 1, 2, 0, 0, []),
  (false, 17, .invokestatic 102, 3, 43, 2, 1, [(694, 1)]),
  (false, 20, .ifCond .eq 7, 3, 13, 0, 0, []),
  (false, 23, .iload_n 1, 1, 1, 0, 0, []),
  (false, 24, .goto 9, 3, 17, 0, 0, []),
  (false, 27, .aload_n 0, 1, 0, 0, 0, []),
  (false, 28, .getfield 37, 3, 2, 6, 6, [(295, 37)]),
  (false, 31, .iload_n 2, 1, 2, 0, 0, []),
  (false, 32, .iaload, 1, 0, 0, 0, []),
  (false, 33, .ireturn, 1, 0, 0, 0, []),
  (false, 34, .nop, 0, 0, 0, 0, [])]
/-- Points.leadOn -/
def zt_158 : List (Bool × zE) := [
  (false, 0, .aload_n 1, 1, 1, 0, 0, []),
  (false, 1, .getfield 54, 3, 3, 0, 0, [(242, 54)]),
  (false, 4, .getfield 148, 3, 8, 2, 2, [(157, 148)]),
  (false, 7, .iload_n 3, 1, 3, 0, 0, []),
  (false, 8, .iaload, 1, 0, 0, 0, []),
  (false, 9, .istore 4, 2, 4, 0, 0, []),
  (false, 11, .aload_n 1, 1, 1, 0, 0, []),
  (false, 12, .getfield 54, 3, 3, 0, 0, [(242, 54)]),
  (false, 15, .getfield 151, 3, 8, 3, 3, [(160, 151)]),
  (false, 18, .iload_n 3, 1, 3, 0, 0, []),
  (false, 19, .iaload, 1, 0, 0, 0, []),
  (false, 20, .istore 5, 2, 5, 0, 0, []),
  (false, 22, .aload_n 1, 1, 1, 0, 0, []),
  (false, 23, .getfield 54, 3, 3, 0, 0, [(242, 54)]),
  (false, 26, .getfield 154, 3, 8, 4, 4, [(164, 154)]),
  (false, 29, .iload_n 3, 1, 3, 0, 0, []),
  (false, 30, .iaload, 1, 0, 0, 0, []),
  (false, 31, .istore 6, 2, 6, 0, 0, []),
  (false, 33, .aload_n 1, 1, 1, 0, 0, []),
  (false, 34, .getfield 54, 3, 3, 0, 0, [(242, 54)]),
  (false, 37, .getfield 157, 3, 8, 5, 5, [(168, 157)]),
  (false, 40, .iload_n 3, 1, 3, 0, 0, []),
  (false, 41, .iaload, 1, 0, 0, 0, []),
  (false, 42, .istore 7, 2, 7, 0, 0, []),
  (false, 44, .iload 4, 2, 4, 0, 0, []),
  (false, 46, .iconst 2, 1, 0, 0, 2, []),
  (false, 47, .if_icmp .ne 21, 3, 36, 0, 0, []),
  (false, 50, .aload_n 0, 1, 0, 0, 0, []),
  (false, 51, .getfield 23, 3, 2, 1, 1, [(285, 23)]),
  (false, 54, .iload_n 2, 1, 2, 0, 0, []),
  (false, 55, .iconst 2, 1, 0, 0, 2, []),
  (false, 56, .bipush (-4), 2, 0, 0, (-4), []),
  (false, 58, .bipush (-4), 2, 0, 0, (-4), []),
  (false, 60, .bipush (-4), 2, 0, 0, (-4), []),
  (false, 62, .invokevirtual 160, 3, 195, 6, 0, [(730, 0)]),
  (false, 65, .goto 129, 3, 100, 0, 0, []),
  (false, 68, .iload 4, 2, 4, 0, 0, []),
  (false, 70, .ifCond .eq 11, 3, 41, 0, 0, []),
  (false, 73, .iload 7, 2, 7, 0, 0, []),
  (false, 75, .invokestatic 134, 3, 38, 1, 1, [(720, 1)]),
  (false, 78, .ifCond .ne 27, 3, 54, 0, 0, []),
  (false, 81, .aload_n 0, 1, 0, 0, 0, []),
  (false, 82, .getfield 23, 3, 2, 1, 1, [(285, 23)]),
  (false, 85, .iload_n 2, 1, 2, 0, 0, []),
  (false, 86, .iconst 0, 1, 0, 0, 0, []),
  (false, 87, .aload_n 0, 1, 0, 0, 0, []),
  (false, 88, .aload_n 1, 1, 1, 0, 0, []),
  (false, 89, .iload 5, 2, 5, 0, 0, []),
  (false, 91, .iload_n 2, 1, 2, 0, 0, []),
  (false, 92, .invokevirtual 70, 3, 152, 4, 1, [(684, 0)]),
  (false, 95, .bipush (-4), 2, 0, 0, (-4), []),
  (false, 97, .bipush (-4), 2, 0, 0, (-4), []),
  (false, 99, .invokevirtual 160, 3, 195, 6, 0, [(730, 0)]),
  (false, 102, .goto 92, 3, 100, 0, 0, []),
  (false, 105, .aload_n 0, 1, 0, 0, 0, []),
  (false, 106, .getfield 12, 3, 2, 0, 0, [(283, 12)]),
  (false, 109, .getfield 99, 3, 0, 1, 1, [(273, 99)]),
  (false, 112, .iload 7, 2, 7, 0, 0, []),
  (false, 114, .invokestatic 102, 3, 43, 2, 1, [(694, 1)]),
  (false, 117, .ifCond .eq 41, 3, 81, 0, 0, []),
  (false, 120, .aload_n 0, 1, 0, 0, 0, []),
  (false, 121, .aload_n 1, 1, 1, 0, 0, []),
  (false, 122, .iload 5, 2, 5, 0, 0, []),
  (false, 124, .iload_n 2, 1, 2, 0, 0, []),
  (false, 125, .invokevirtual 70, 3, 152, 4, 1, [(684, 0)]),
  (false, 128, .istore 8, 2, 8, 0, 0, []),
  (false, 130, .aload_n 0, 1, 0, 0, 0, []),
  (false, 131, .aload_n 1, 1, 1, 0, 0, []),
  (false, 132, .iload 6, 2, 6, 0, 0, []),
  (false, 134, .iload_n 2, 1, 2, 0, 0, []),
  (false, 135, .invokevirtual 70, 3, 152, 4, 1, [(684, 0)]),
  (false, 138, .istore 9, 2, 9, 0, 0, []),
  (false, 140, .aload_n 0, 1, 0, 0, 0, []),
  (false, 141, .getfield 23, 3, 2, 1, 1, [(285, 23)]),
  (false, 144, .iload_n 2, 1, 2, 0, 0, []),
  (false, 145, .iconst 1, 1, 0, 0, 1, []),
  (false, 146, .iload 8, 2, 8, 0, 0, []),
  (false, 148, .iload 9, 2, 9, 0, 0, []),
  (false, 150, .iload 7, 2, 7, 0, 0, []),
  (false, 152, .invokevirtual 160, 3, 195, 6, 0, [(730, 0)]),
  (false, 155, .goto 39, 3, 100, 0, 0, []),
  (false, 158, .aload_n 0, 1, 0, 0, 0, []),
  (false, 159, .getfield 23, 3, 2, 1, 1, [(285, 23)]),
  (false, 162, .iload_n 2, 1, 2, 0, 0, []),
  (false, 163, .iconst 0, 1, 0, 0, 0, []),
  (false, 164, .aload_n 0, 1, 0, 0, 0, []),
  (false, 165, .aload_n 1, 1, 1, 0, 0, []),
  (false, 166, .aload_n 0, 1, 0, 0, 0, []),
  (false, 167, .getfield 37, 3, 2, 6, 6, [(295, 37)]),
  (false, 170, .iload 7, 2, 7, 0, 0, []),
  (false, 172, .iaload, 1, 0, 0, 0, []),
  (false, 173, .ifCond .eq 8, 3, 94, 0, 0, []),
  (false, 176, .iload 5, 2, 5, 0, 0, []),
  (false, 178, .goto 5, 3, 95, 0, 0, []),
  (false, 181, .iload 6, 2, 6, 0, 0, []),
  (false, 183, .iload_n 2, 1, 2, 0, 0, []),
  (false, 184, .invokevirtual 70, 3, 152, 4, 1, [(684, 0)]),
  (false, 187, .bipush (-4), 2, 0, 0, (-4), []),
  (false, 189, .bipush (-4), 2, 0, 0, (-4), []),
  (false, 191, .invokevirtual 160, 3, 195, 6, 0, [(730, 0)]),
  (false, 194, .return_, 1, 0, 0, 0, []),
  (false, 195, .nop, 0, 0, 0, 0, [])]
/-- Program.become -/
def zt_159 : List (Bool × zE) := [
  (false, 0, .aload_n 0, 1, 0, 0, 0, []),
  (false, 1, .getfield 14, 3, 3, 0, 0, [(241, 14)]),
  (false, 4, .aload_n 1, 1, 1, 0, 0, []),
  (false, 5, .invokevirtual 27, 3, 201, 2, 0, [(614, 0)]),
  (false, 8, .aload_n 0, 1, 0, 0, 0, []),
  (false, 9, .invokevirtual 24, 3, 160, 1, 0, [(237, 0)]),
  (false, 12, .return_, 1, 0, 0, 0, []),
  (false, 13, .nop, 0, 0, 0, 0, [])]
/-- Program.forgetGiven -/
def zt_160 : List (Bool × zE) := [
  (false, 0, .iconst 0, 1, 0, 0, 0, []),
  (false, 1, .istore_n 1, 1, 1, 0, 0, []),
  (true, 2, .iload_n 1, 1, 1, 0, 0, []),
  (false, 3, .bipush 6, 2, 0, 0, 6, []),
  (false, 5, .if_icmp .ge 17, 3, 12, 0, 0, []),
  (false, 8, .aload_n 0, 1, 0, 0, 0, []),
  (false, 9, .getfield 20, 3, 3, 1, 1, [(245, 20)]),
  (false, 12, .iload_n 1, 1, 1, 0, 0, []),
  (false, 13, .bipush (-4), 2, 0, 0, (-4), []),
  (false, 15, .iastore, 1, 0, 0, 0, []),
  (false, 16, .iinc 1 1, 3, 1, 0, 1, []),
  (false, 19, .goto (-17), 3, 2, 0, 0, []),
  (false, 22, .aload_n 0, 1, 0, 0, 0, []),
  (false, 23, .iconst 1, 1, 0, 0, 1, []),
  (false, 24, .putfield 31, 3, 3, 2, 2, [(249, 31)]),
  (false, 27, .return_, 1, 0, 0, 0, []),
  (false, 28, .nop, 0, 0, 0, 0, [])]
/-- Program.givenBits -/
def zt_161 : List (Bool × zE) := [
  (false, 0, .iconst 0, 1, 0, 0, 0, []),
  (false, 1, .istore_n 1, 1, 1, 0, 0, []),
  (false, 2, .iconst 0, 1, 0, 0, 0, []),
  (false, 3, .istore_n 2, 1, 2, 0, 0, []),
  (true, 4, .iload_n 2, 1, 2, 0, 0, []),
  (false, 5, .bipush 6, 2, 0, 0, 6, []),
  (false, 7, .if_icmp .ge 24, 3, 20, 0, 0, []),
  (false, 10, .aload_n 0, 1, 0, 0, 0, []),
  (false, 11, .getfield 20, 3, 3, 1, 1, [(245, 20)]),
  (false, 14, .iload_n 2, 1, 2, 0, 0, []),
  (false, 15, .iaload, 1, 0, 0, 0, []),
  (false, 16, .ifCond .lt 9, 3, 18, 0, 0, []),
  (false, 19, .iload_n 1, 1, 1, 0, 0, []),
  (false, 20, .iconst 1, 1, 0, 0, 1, []),
  (false, 21, .iload_n 2, 1, 2, 0, 0, []),
  (false, 22, .ishl, 1, 0, 0, 0, []),
  (false, 23, .ior, 1, 0, 0, 0, []),
  (false, 24, .istore_n 1, 1, 1, 0, 0, []),
  (false, 25, .iinc 2 1, 3, 2, 0, 1, []),
  (false, 28, .goto (-24), 3, 4, 0, 0, []),
  (false, 31, .iload_n 1, 1, 1, 0, 0, []),
  (false, 32, .ireturn, 1, 0, 0, 0, []),
  (false, 33, .nop, 0, 0, 0, 0, [])]
/-- Program.copyFrom -/
def zt_162 : List (Bool × zE) := [
  (false, 0, .aload_n 0, 1, 0, 0, 0, []),
  (false, 1, .getfield 14, 3, 3, 0, 0, [(241, 14)]),
  (false, 4, .aload_n 1, 1, 1, 0, 0, []),
  (false, 5, .getfield 14, 3, 3, 0, 0, [(241, 14)]),
  (false, 8, .invokevirtual 27, 3, 201, 2, 0, [(614, 0)]),
  (false, 11, .aload_n 1, 1, 1, 0, 0, []),
  (false, 12, .getfield 20, 3, 3, 1, 1, [(245, 20)]),
  (false, 15, .aload_n 0, 1, 0, 0, 0, []),
  (false, 16, .getfield 20, 3, 3, 1, 1, [(245, 20)]),
  (false, 19, .invokestatic 35, 3, 49, 2, 0, [(932, 1)]),
  (false, 22, .aload_n 0, 1, 0, 0, 0, []),
  (false, 23, .aload_n 1, 1, 1, 0, 0, []),
  (false, 24, .getfield 31, 3, 3, 2, 2, [(249, 31)]),
  (false, 27, .putfield 31, 3, 3, 2, 2, [(249, 31)]),
  (false, 30, .return_, 1, 0, 0, 0, []),
  (false, 31, .nop, 0, 0, 0, 0, [])]
/-- Reader.takesTape -/
def zt_163 : List (Bool × zE) := [
  (false, 0, .aload_n 0, 1, 0, 0, 0, []),
  (false, 1, .getfield 23, 3, 4, 1, 1, [(202, 23)]),
  (false, 4, .invokevirtual 27, 3, 191, 1, 0, [(450, 0)]),
  (false, 7, .aload_n 0, 1, 0, 0, 0, []),
  (false, 8, .iconst 0, 1, 0, 0, 0, []),
  (false, 9, .putfield 30, 3, 4, 2, 2, [(204, 30)]),
  (false, 12, .aload_n 0, 1, 0, 0, 0, []),
  (false, 13, .iconst 0, 1, 0, 0, 0, []),
  (false, 14, .putfield 34, 3, 4, 3, 3, [(206, 34)]),
  (false, 17, .aload_n 0, 1, 0, 0, 0, []),
  (false, 18, .iconst 0, 1, 0, 0, 0, []),
  (false, 19, .putfield 37, 3, 4, 6, 6, [(210, 37)]),
  (false, 22, .aload_n 0, 1, 0, 0, 0, []),
  (false, 23, .invokevirtual 40, 3, 165, 1, 1, [(454, 0)]),
  (false, 26, .ifCond .ne 5, 3, 17, 0, 0, []),
  (false, 29, .iconst 0, 1, 0, 0, 0, []),
  (false, 30, .freturn, 1, 0, 0, 0, []),
  (false, 31, .iconst 0, 1, 0, 0, 0, []),
  (false, 32, .istore_n 1, 1, 1, 0, 0, []),
  (true, 33, .iload_n 1, 1, 1, 0, 0, []),
  (false, 34, .bipush 8, 2, 0, 0, 8, []),
  (false, 36, .if_icmp .gt 25, 3, 32, 0, 0, []),
  (false, 39, .aload_n 0, 1, 0, 0, 0, []),
  (false, 40, .getfield 44, 3, 4, 4, 4, [(208, 44)]),
  (false, 43, .ifCond .eq 18, 3, 32, 0, 0, []),
  (false, 46, .aload_n 0, 1, 0, 0, 0, []),
  (false, 47, .invokevirtual 47, 3, 174, 1, 1, [(469, 0)]),
  (false, 50, .ifCond .ne 5, 3, 30, 0, 0, []),
  (false, 53, .iconst 0, 1, 0, 0, 0, []),
  (false, 54, .freturn, 1, 0, 0, 0, []),
  (false, 55, .iinc 1 1, 3, 1, 0, 1, []),
  (false, 58, .goto (-25), 3, 19, 0, 0, []),
  (false, 61, .aload_n 0, 1, 0, 0, 0, []),
  (false, 62, .invokevirtual 50, 3, 180, 1, 1, [(606, 0)]),
  (false, 65, .freturn, 1, 0, 0, 0, []),
  (false, 66, .nop, 0, 0, 0, 0, [])]
/-- Reader.refuse -/
def zt_164 : List (Bool × zE) := [
  (false, 0, .aload_n 0, 1, 0, 0, 0, []),
  (false, 1, .iload_n 1, 1, 1, 0, 0, []),
  (false, 2, .putfield 30, 3, 4, 2, 2, [(204, 30)]),
  (false, 5, .aload_n 0, 1, 0, 0, 0, []),
  (false, 6, .iload_n 2, 1, 2, 0, 0, []),
  (false, 7, .putfield 34, 3, 4, 3, 3, [(206, 34)]),
  (false, 10, .iconst 0, 1, 0, 0, 0, []),
  (false, 11, .freturn, 1, 0, 0, 0, []),
  (false, 12, .nop, 0, 0, 0, 0, [])]
/-- Reader.advance -/
def zt_165 : List (Bool × zE) := [
  (false, 0, .iconst 0, 1, 0, 0, 0, []),
  (false, 1, .istore_n 1, 1, 1, 0, 0, []),
  (true, 2, .iload_n 1, 1, 1, 0, 0, []),
  (false, 3, .sipush 320, 3, 0, 0, 320, []),
  (false, 6, .if_icmp .ge 35, 3, 20, 0, 0, []),
  (false, 9, .aload_n 0, 1, 0, 0, 0, []),
  (false, 10, .getfield 12, 3, 4, 0, 0, [(200, 12)]),
  (false, 13, .aload_n 0, 1, 0, 0, 0, []),
  (false, 14, .getfield 37, 3, 4, 6, 6, [(210, 37)]),
  (false, 17, .invokevirtual 53, 3, 190, 2, 1, [(458, 0)]),
  (false, 20, .bipush 32, 2, 0, 0, 32, []),
  (false, 22, .if_icmp .ne 19, 3, 20, 0, 0, []),
  (false, 25, .aload_n 0, 1, 0, 0, 0, []),
  (false, 26, .dup, 1, 0, 0, 0, []),
  (false, 27, .getfield 37, 3, 4, 6, 6, [(210, 37)]),
  (false, 30, .iconst 1, 1, 0, 0, 1, []),
  (false, 31, .iadd, 1, 0, 0, 0, []),
  (false, 32, .putfield 37, 3, 4, 6, 6, [(210, 37)]),
  (false, 35, .iinc 1 1, 3, 1, 0, 1, []),
  (false, 38, .goto (-36), 3, 2, 0, 0, []),
  (false, 41, .aload_n 0, 1, 0, 0, 0, []),
  (false, 42, .aload_n 0, 1, 0, 0, 0, []),
  (false, 43, .getfield 37, 3, 4, 6, 6, [(210, 37)]),
  (false, 46, .putfield 57, 3, 4, 5, 5, [(209, 57)]),
  (false, 49, .aload_n 0, 1, 0, 0, 0, []),
  (false, 50, .aload_n 0, 1, 0, 0, 0, []),
  (false, 51, .getfield 12, 3, 4, 0, 0, [(200, 12)]),
  (false, 54, .aload_n 0, 1, 0, 0, 0, []),
  (false, 55, .getfield 57, 3, 4, 5, 5, [(209, 57)]),
  (false, 58, .invokevirtual 53, 3, 190, 2, 1, [(458, 0)]),
  (false, 61, .invokestatic 60, 3, 166, 1, 1, [(462, 0)]),
  (false, 64, .putfield 44, 3, 4, 4, 4, [(208, 44)]),
  (false, 67, .aload_n 0, 1, 0, 0, 0, []),
  (false, 68, .getfield 44, 3, 4, 4, 4, [(208, 44)]),
  (false, 71, .iconst 4, 1, 0, 0, 4, []),
  (false, 72, .if_icmp .ne 13, 3, 42, 0, 0, []),
  (false, 75, .aload_n 0, 1, 0, 0, 0, []),
  (false, 76, .iconst 1, 1, 0, 0, 1, []),
  (false, 77, .aload_n 0, 1, 0, 0, 0, []),
  (false, 78, .getfield 57, 3, 4, 5, 5, [(209, 57)]),
  (false, 81, .invokevirtual 63, 3, 164, 3, 1, [(465, 0)]),
  (false, 84, .freturn, 1, 0, 0, 0, []),
  (false, 85, .aload_n 0, 1, 0, 0, 0, []),
  (false, 86, .getfield 44, 3, 4, 4, 4, [(208, 44)]),
  (false, 89, .iconst 3, 1, 0, 0, 3, []),
  (false, 90, .if_icmp .ne 13, 3, 52, 0, 0, []),
  (false, 93, .aload_n 0, 1, 0, 0, 0, []),
  (false, 94, .dup, 1, 0, 0, 0, []),
  (false, 95, .getfield 37, 3, 4, 6, 6, [(210, 37)]),
  (false, 98, .iconst 1, 1, 0, 0, 1, []),
  (false, 99, .iadd, 1, 0, 0, 0, []),
  (false, 100, .putfield 37, 3, 4, 6, 6, [(210, 37)]),
  (false, 103, .aload_n 0, 1, 0, 0, 0, []),
  (false, 104, .getfield 44, 3, 4, 4, 4, [(208, 44)]),
  (false, 107, .iconst 1, 1, 0, 0, 1, []),
  (false, 108, .if_icmp .eq 11, 3, 60, 0, 0, []),
  (false, 111, .aload_n 0, 1, 0, 0, 0, []),
  (false, 112, .getfield 44, 3, 4, 4, 4, [(208, 44)]),
  (false, 115, .iconst 2, 1, 0, 0, 2, []),
  (false, 116, .if_icmp .ne 7, 3, 62, 0, 0, []),
  (false, 119, .iconst 1, 1, 0, 0, 1, []),
  (false, 120, .goto 4, 3, 63, 0, 0, []),
  (false, 123, .iconst 0, 1, 0, 0, 0, []),
  (false, 124, .istore_n 1, 1, 1, 0, 0, []),
  (false, 125, .aload_n 0, 1, 0, 0, 0, []),
  (false, 126, .iconst 0, 1, 0, 0, 0, []),
  (false, 127, .putfield 67, 3, 4, 7, 7, [(211, 67)]),
  (false, 130, .iconst 0, 1, 0, 0, 0, []),
  (false, 131, .istore_n 2, 1, 2, 0, 0, []),
  (true, 132, .iload_n 2, 1, 2, 0, 0, []),
  (false, 133, .sipush 320, 3, 0, 0, 320, []),
  (false, 136, .if_icmp .ge 70, 3, 105, 0, 0, []),
  (false, 139, .iload_n 1, 1, 1, 0, 0, []),
  (false, 140, .ifCond .eq 66, 3, 105, 0, 0, []),
  (false, 143, .aload_n 0, 1, 0, 0, 0, []),
  (false, 144, .getfield 12, 3, 4, 0, 0, [(200, 12)]),
  (false, 147, .aload_n 0, 1, 0, 0, 0, []),
  (false, 148, .getfield 37, 3, 4, 6, 6, [(210, 37)]),
  (false, 151, .invokevirtual 53, 3, 190, 2, 1, [(458, 0)]),
  (false, 154, .invokestatic 60, 3, 166, 1, 1, [(462, 0)]),
  (false, 157, .aload_n 0, 1, 0, 0, 0, []),
  (false, 158, .getfield 44, 3, 4, 4, 4, [(208, 44)]),
  (false, 161, .if_icmp .ne 45, 3, 105, 0, 0, []),
  (false, 164, .aload_n 0, 1, 0, 0, 0, []),
  (false, 165, .aload_n 0, 1, 0, 0, 0, []),
  (false, 166, .getfield 67, 3, 4, 7, 7, [(211, 67)]),
  (false, 169, .bipush 10, 2, 0, 0, 10, []),
  (false, 171, .imul, 1, 0, 0, 0, []),
  (false, 172, .aload_n 0, 1, 0, 0, 0, []),
  (false, 173, .getfield 12, 3, 4, 0, 0, [(200, 12)]),
  (false, 176, .aload_n 0, 1, 0, 0, 0, []),
  (false, 177, .getfield 37, 3, 4, 6, 6, [(210, 37)]),
  (false, 180, .invokevirtual 53, 3, 190, 2, 1, [(458, 0)]),
  (false, 183, .iadd, 1, 0, 0, 0, []),
  (false, 184, .bipush 48, 2, 0, 0, 48, []),
  (false, 186, .isub, 1, 0, 0, 0, []),
  (false, 187, .putfield 67, 3, 4, 7, 7, [(211, 67)]),
  (false, 190, .aload_n 0, 1, 0, 0, 0, []),
  (false, 191, .dup, 1, 0, 0, 0, []),
  (false, 192, .getfield 37, 3, 4, 6, 6, [(210, 37)]),
  (false, 195, .iconst 1, 1, 0, 0, 1, []),
  (false, 196, .iadd, 1, 0, 0, 0, []),
  (false, 197, .putfield 37, 3, 4, 6, 6, [(210, 37)]),
  (false, 200, .iinc 2 1, 3, 2, 0, 1, []),
  (false, 203, .goto (-71), 3, 69, 0, 0, []),
  (false, 206, .aload_n 0, 1, 0, 0, 0, []),
  (false, 207, .getfield 44, 3, 4, 4, 4, [(208, 44)]),
  (false, 210, .iconst 2, 1, 0, 0, 2, []),
  (false, 211, .if_icmp .ne 28, 3, 122, 0, 0, []),
  (false, 214, .aload_n 0, 1, 0, 0, 0, []),
  (false, 215, .getfield 37, 3, 4, 6, 6, [(210, 37)]),
  (false, 218, .aload_n 0, 1, 0, 0, 0, []),
  (false, 219, .getfield 57, 3, 4, 5, 5, [(209, 57)]),
  (false, 222, .isub, 1, 0, 0, 0, []),
  (false, 223, .iconst 2, 1, 0, 0, 2, []),
  (false, 224, .if_icmp .le 15, 3, 122, 0, 0, []),
  (false, 227, .aload_n 0, 1, 0, 0, 0, []),
  (false, 228, .iconst 1, 1, 0, 0, 1, []),
  (false, 229, .aload_n 0, 1, 0, 0, 0, []),
  (false, 230, .getfield 57, 3, 4, 5, 5, [(209, 57)]),
  (false, 233, .invokevirtual 63, 3, 164, 3, 1, [(465, 0)]),
  (false, 236, .ifCond .eq 7, 3, 124, 0, 0, []),
  (false, 239, .iconst 1, 1, 0, 0, 1, []),
  (false, 240, .goto 4, 3, 125, 0, 0, []),
  (false, 243, .iconst 0, 1, 0, 0, 0, []),
  (false, 244, .freturn, 1, 0, 0, 0, []),
  (false, 245, .nop, 0, 0, 0, 0, [])]
/-- Reader.sortOf -/
def zt_166 : List (Bool × zE) := [
  (false, 0, .iload_n 0, 1, 0, 0, 0, []),
  (false, 1, .bipush (-4), 2, 0, 0, (-4), []),
  (false, 3, .if_icmp .ne 5, 3, 5, 0, 0, []),
  (false, 6, .iconst 0, 1, 0, 0, 0, []),
  (false, 7, .ireturn, 1, 0, 0, 0, []),
  (false, 8, .iload_n 0, 1, 0, 0, 0, []),
  (false, 9, .bipush 97, 2, 0, 0, 97, []),
  (false, 11, .if_icmp .lt 11, 3, 13, 0, 0, []),
  (false, 14, .iload_n 0, 1, 0, 0, 0, []),
  (false, 15, .bipush 122, 2, 0, 0, 122, []),
  (false, 17, .if_icmp .gt 5, 3, 13, 0, 0, []),
  (false, 20, .iconst 1, 1, 0, 0, 1, []),
  (false, 21, .ireturn, 1, 0, 0, 0, []),
  (false, 22, .iload_n 0, 1, 0, 0, 0, []),
  (false, 23, .bipush 48, 2, 0, 0, 48, []),
  (false, 25, .if_icmp .lt 11, 3, 21, 0, 0, []),
  (false, 28, .iload_n 0, 1, 0, 0, 0, []),
  (false, 29, .bipush 57, 2, 0, 0, 57, []),
  (false, 31, .if_icmp .gt 5, 3, 21, 0, 0, []),
  (false, 34, .iconst 2, 1, 0, 0, 2, []),
  (false, 35, .ireturn, 1, 0, 0, 0, []),
  (false, 36, .iload_n 0, 1, 0, 0, 0, []),
  (false, 37, .bipush 59, 2, 0, 0, 59, []),
  (false, 39, .if_icmp .ne 7, 3, 26, 0, 0, []),
  (false, 42, .iconst 3, 1, 0, 0, 3, []),
  (false, 43, .goto 4, 3, 27, 0, 0, []),
  (false, 46, .iconst 4, 1, 0, 0, 4, []),
  (false, 47, .ireturn, 1, 0, 0, 0, []),
  (false, 48, .nop, 0, 0, 0, 0, [])]
/-- Reader.isWord -/
def zt_167 : List (Bool × zE) := [
  (false, 0, .aload_n 0, 1, 0, 0, 0, []),
  (false, 1, .getfield 44, 3, 4, 4, 4, [(208, 44)]),
  (false, 4, .iconst 1, 1, 0, 0, 1, []),
  (false, 5, .if_icmp .ne 19, 3, 12, 0, 0, []),
  (false, 8, .aload_n 0, 1, 0, 0, 0, []),
  (false, 9, .getfield 37, 3, 4, 6, 6, [(210, 37)]),
  (false, 12, .aload_n 0, 1, 0, 0, 0, []),
  (false, 13, .getfield 57, 3, 4, 5, 5, [(209, 57)]),
  (false, 16, .isub, 1, 0, 0, 0, []),
  (false, 17, .aload_n 1, 1, 1, 0, 0, []),
  (false, 18, .invokevirtual 70, 3, 202, 1, 1, [(478, 0)]),
  (false, 21, .if_icmp .eq 5, 3, 14, 0, 0, []),
  (false, 24, .iconst 0, 1, 0, 0, 0, []),
  (false, 25, .freturn, 1, 0, 0, 0, []),
  (false, 26, .iconst 0, 1, 0, 0, 0, []),
  (false, 27, .istore_n 2, 1, 2, 0, 0, []),
  (true, 28, .iload_n 2, 1, 2, 0, 0, []),
  (false, 29, .aload_n 1, 1, 1, 0, 0, []),
  (false, 30, .invokevirtual 70, 3, 202, 1, 1, [(478, 0)]),
  (false, 33, .if_icmp .ge 32, 3, 35, 0, 0, []),
  (false, 36, .aload_n 0, 1, 0, 0, 0, []),
  (false, 37, .getfield 12, 3, 4, 0, 0, [(200, 12)]),
  (false, 40, .aload_n 0, 1, 0, 0, 0, []),
  (false, 41, .getfield 57, 3, 4, 5, 5, [(209, 57)]),
  (false, 44, .iload_n 2, 1, 2, 0, 0, []),
  (false, 45, .iadd, 1, 0, 0, 0, []),
  (false, 46, .invokevirtual 53, 3, 190, 2, 1, [(458, 0)]),
  (false, 49, .aload_n 1, 1, 1, 0, 0, []),
  (false, 50, .iload_n 2, 1, 2, 0, 0, []),
  (false, 51, .invokevirtual 76, 3, 203, 2, 1, [(488, 0)]),
  (false, 54, .if_icmp .eq 5, 3, 33, 0, 0, []),
  (false, 57, .iconst 0, 1, 0, 0, 0, []),
  (false, 58, .freturn, 1, 0, 0, 0, []),
  (false, 59, .iinc 2 1, 3, 2, 0, 1, []),
  (false, 62, .goto (-34), 3, 16, 0, 0, []),
  (false, 65, .iconst 1, 1, 0, 0, 1, []),
  (false, 66, .freturn, 1, 0, 0, 0, []),
  (false, 67, .nop, 0, 0, 0, 0, [])]
/-- Reader.variableHere -/
def zt_168 : List (Bool × zE) := [
  (false, 0, .aload_n 0, 1, 0, 0, 0, []),
  (false, 1, .getfield 12, 3, 4, 0, 0, [(200, 12)]),
  (false, 4, .aload_n 0, 1, 0, 0, 0, []),
  (false, 5, .getfield 57, 3, 4, 5, 5, [(209, 57)]),
  (false, 8, .invokevirtual 53, 3, 190, 2, 1, [(458, 0)]),
  (false, 11, .bipush 97, 2, 0, 0, 97, []),
  (false, 13, .isub, 1, 0, 0, 0, []),
  (false, 14, .istore_n 1, 1, 1, 0, 0, []),
  (false, 15, .aload_n 0, 1, 0, 0, 0, []),
  (false, 16, .getfield 44, 3, 4, 4, 4, [(208, 44)]),
  (false, 19, .iconst 1, 1, 0, 0, 1, []),
  (false, 20, .if_icmp .ne 27, 3, 24, 0, 0, []),
  (false, 23, .aload_n 0, 1, 0, 0, 0, []),
  (false, 24, .getfield 37, 3, 4, 6, 6, [(210, 37)]),
  (false, 27, .aload_n 0, 1, 0, 0, 0, []),
  (false, 28, .getfield 57, 3, 4, 5, 5, [(209, 57)]),
  (false, 31, .isub, 1, 0, 0, 0, []),
  (false, 32, .iconst 1, 1, 0, 0, 1, []),
  (false, 33, .if_icmp .ne 14, 3, 24, 0, 0, []),
  (false, 36, .iload_n 1, 1, 1, 0, 0, []),
  (false, 37, .invokestatic 80, 3, 38, 1, 1, [(560, 1)]),
  (false, 40, .ifCond .eq 7, 3, 24, 0, 0, []),
  (false, 43, .iload_n 1, 1, 1, 0, 0, []),
  (false, 44, .goto 5, 3, 25, 0, 0, []),
  (false, 47, .bipush (-4), 2, 0, 0, (-4), []),
  (false, 49, .ireturn, 1, 0, 0, 0, []),
  (false, 50, .nop, 0, 0, 0, 0, [])]
/-- Reader.operandHere -/
def zt_169 : List (Bool × zE) := [
  (false, 0, .aload_n 0, 1, 0, 0, 0, []),
  (false, 1, .getfield 44, 3, 4, 4, 4, [(208, 44)]),
  (false, 4, .iconst 2, 1, 0, 0, 2, []),
  (false, 5, .if_icmp .ne 8, 3, 7, 0, 0, []),
  (false, 8, .aload_n 0, 1, 0, 0, 0, []),
  (false, 9, .getfield 67, 3, 4, 7, 7, [(211, 67)]),
  (false, 12, .ireturn, 1, 0, 0, 0, []),
  (false, 13, .aload_n 0, 1, 0, 0, 0, []),
  (false, 14, .invokevirtual 84, 3, 168, 1, 1, [(556, 0)]),
  (false, 17, .istore_n 1, 1, 1, 0, 0, []),
  (false, 18, .iload_n 1, 1, 1, 0, 0, []),
  (false, 19, .ifCond .ge 8, 3, 14, 0, 0, []),
  (false, 22, .bipush (-4), 2, 0, 0, (-4), []),
  (false, 24, .goto 7, 3, 17, 0, 0, []),
  (false, 27, .bipush 100, 2, 0, 0, 100, []),
  (false, 29, .iload_n 1, 1, 1, 0, 0, []),
  (false, 30, .iadd, 1, 0, 0, 0, []),
  (false, 31, .ireturn, 1, 0, 0, 0, []),
  (false, 32, .nop, 0, 0, 0, 0, [])]
/-- Reader.opHere -/
def zt_170 : List (Bool × zE) := [
  (false, 0, .iconst 0, 1, 0, 0, 0, []),
  (false, 1, .istore_n 1, 1, 1, 0, 0, []),
  (true, 2, .iload_n 1, 1, 1, 0, 0, []),
  (false, 3, .iconst 4, 1, 0, 0, 4, []),
  (false, 4, .if_icmp .ge 22, 3, 14, 0, 0, []),
  (false, 7, .aload_n 0, 1, 0, 0, 0, []),
  (false, 8, .iload_n 1, 1, 1, 0, 0, []),
  (false, 9, .invokestatic 87, 3, 48, 1, 1, [(575, 1)]),
  (false, 12, .invokevirtual 91, 3, 167, 2, 1, [(474, 0)]),
  (false, 15, .ifCond .eq 5, 3, 12, 0, 0, []),
  (false, 18, .iload_n 1, 1, 1, 0, 0, []),
  (false, 19, .ireturn, 1, 0, 0, 0, []),
  (false, 20, .iinc 1 1, 3, 1, 0, 1, []),
  (false, 23, .goto (-21), 3, 2, 0, 0, []),
  (false, 26, .bipush (-4), 2, 0, 0, (-4), []),
  (false, 28, .ireturn, 1, 0, 0, 0, []),
  (false, 29, .nop, 0, 0, 0, 0, [])]
/-- Reader.take -/
def zt_171 : List (Bool × zE) := [
  (false, 0, .iload_n 1, 1, 1, 0, 0, []),
  (false, 1, .ifCond .ge 16, 3, 10, 0, 0, []),
  (false, 4, .aload_n 0, 1, 0, 0, 0, []),
  (false, 5, .iconst 2, 1, 0, 0, 2, []),
  (false, 6, .aload_n 0, 1, 0, 0, 0, []),
  (false, 7, .getfield 57, 3, 4, 5, 5, [(209, 57)]),
  (false, 10, .invokevirtual 63, 3, 164, 3, 1, [(465, 0)]),
  (false, 13, .pop, 1, 0, 0, 0, []),
  (false, 14, .bipush (-4), 2, 0, 0, (-4), []),
  (false, 16, .ireturn, 1, 0, 0, 0, []),
  (false, 17, .aload_n 0, 1, 0, 0, 0, []),
  (false, 18, .invokevirtual 40, 3, 165, 1, 1, [(454, 0)]),
  (false, 21, .ifCond .eq 7, 3, 15, 0, 0, []),
  (false, 24, .iload_n 1, 1, 1, 0, 0, []),
  (false, 25, .goto 5, 3, 16, 0, 0, []),
  (false, 28, .bipush (-4), 2, 0, 0, (-4), []),
  (false, 30, .ireturn, 1, 0, 0, 0, []),
  (false, 31, .nop, 0, 0, 0, 0, [])]
/-- Reader.takeBlockNumber -/
def zt_172 : List (Bool × zE) := [
  (false, 0, .aload_n 0, 1, 0, 0, 0, []),
  (false, 1, .getfield 44, 3, 4, 4, 4, [(208, 44)]),
  (false, 4, .iconst 2, 1, 0, 0, 2, []),
  (false, 5, .if_icmp .ne 25, 3, 16, 0, 0, []),
  (false, 8, .aload_n 0, 1, 0, 0, 0, []),
  (false, 9, .getfield 67, 3, 4, 7, 7, [(211, 67)]),
  (false, 12, .bipush 8, 2, 0, 0, 8, []),
  (false, 14, .if_icmp .lt 16, 3, 16, 0, 0, []),
  (false, 17, .aload_n 0, 1, 0, 0, 0, []),
  (false, 18, .iconst 3, 1, 0, 0, 3, []),
  (false, 19, .aload_n 0, 1, 0, 0, 0, []),
  (false, 20, .getfield 57, 3, 4, 5, 5, [(209, 57)]),
  (false, 23, .invokevirtual 63, 3, 164, 3, 1, [(465, 0)]),
  (false, 26, .pop, 1, 0, 0, 0, []),
  (false, 27, .bipush (-4), 2, 0, 0, (-4), []),
  (false, 29, .ireturn, 1, 0, 0, 0, []),
  (false, 30, .aload_n 0, 1, 0, 0, 0, []),
  (false, 31, .aload_n 0, 1, 0, 0, 0, []),
  (false, 32, .getfield 44, 3, 4, 4, 4, [(208, 44)]),
  (false, 35, .iconst 2, 1, 0, 0, 2, []),
  (false, 36, .if_icmp .ne 10, 3, 24, 0, 0, []),
  (false, 39, .aload_n 0, 1, 0, 0, 0, []),
  (false, 40, .getfield 67, 3, 4, 7, 7, [(211, 67)]),
  (false, 43, .goto 5, 3, 25, 0, 0, []),
  (false, 46, .bipush (-4), 2, 0, 0, (-4), []),
  (false, 48, .invokevirtual 95, 3, 171, 2, 1, [(546, 0)]),
  (false, 51, .ireturn, 1, 0, 0, 0, []),
  (false, 52, .nop, 0, 0, 0, 0, [])]
/-- Reader.takesSemicolon -/
def zt_173 : List (Bool × zE) := [
  (false, 0, .aload_n 0, 1, 0, 0, 0, []),
  (false, 1, .aload_n 0, 1, 0, 0, 0, []),
  (false, 2, .getfield 44, 3, 4, 4, 4, [(208, 44)]),
  (false, 5, .iconst 3, 1, 0, 0, 3, []),
  (false, 6, .if_icmp .ne 7, 3, 7, 0, 0, []),
  (false, 9, .iconst 0, 1, 0, 0, 0, []),
  (false, 10, .goto 5, 3, 8, 0, 0, []),
  (false, 13, .bipush (-4), 2, 0, 0, (-4), []),
  (false, 15, .invokevirtual 95, 3, 171, 2, 1, [(546, 0)]),
  (false, 18, .ifCond .lt 7, 3, 12, 0, 0, []),
  (false, 21, .iconst 1, 1, 0, 0, 1, []),
  (false, 22, .goto 4, 3, 13, 0, 0, []),
  (false, 25, .iconst 0, 1, 0, 0, 0, []),
  (false, 26, .freturn, 1, 0, 0, 0, []),
  (false, 27, .nop, 0, 0, 0, 0, [])]
/-- Reader.takesBlock -/
def zt_174 : List (Bool × zE) := [
  (false, 0, .aload_n 0, 1, 0, 0, 0, []),
  (false, 1, .ldc 98, 2, 1000, 1, 473, []),
  (false, 3, .invokevirtual 91, 3, 167, 2, 1, [(474, 0)]),
  (false, 6, .ifCond .ne 13, 3, 10, 0, 0, []),
  (false, 9, .aload_n 0, 1, 0, 0, 0, []),
  (false, 10, .iconst 2, 1, 0, 0, 2, []),
  (false, 11, .aload_n 0, 1, 0, 0, 0, []),
  (false, 12, .getfield 57, 3, 4, 5, 5, [(209, 57)]),
  (false, 15, .invokevirtual 63, 3, 164, 3, 1, [(465, 0)]),
  (false, 18, .freturn, 1, 0, 0, 0, []),
  (false, 19, .aload_n 0, 1, 0, 0, 0, []),
  (false, 20, .getfield 23, 3, 4, 1, 1, [(202, 23)]),
  (false, 23, .invokevirtual 100, 3, 192, 1, 1, [(526, 0)]),
  (false, 26, .ifCond .ne 13, 3, 20, 0, 0, []),
  (false, 29, .aload_n 0, 1, 0, 0, 0, []),
  (false, 30, .iconst 5, 1, 0, 0, 5, []),
  (false, 31, .aload_n 0, 1, 0, 0, 0, []),
  (false, 32, .getfield 57, 3, 4, 5, 5, [(209, 57)]),
  (false, 35, .invokevirtual 63, 3, 164, 3, 1, [(465, 0)]),
  (false, 38, .freturn, 1, 0, 0, 0, []),
  (false, 39, .aload_n 0, 1, 0, 0, 0, []),
  (false, 40, .invokevirtual 40, 3, 165, 1, 1, [(454, 0)]),
  (false, 43, .ifCond .eq 10, 3, 26, 0, 0, []),
  (false, 46, .aload_n 0, 1, 0, 0, 0, []),
  (false, 47, .invokevirtual 103, 3, 173, 1, 1, [(542, 0)]),
  (false, 50, .ifCond .ne 5, 3, 28, 0, 0, []),
  (false, 53, .iconst 0, 1, 0, 0, 0, []),
  (false, 54, .freturn, 1, 0, 0, 0, []),
  (false, 55, .iconst 0, 1, 0, 0, 0, []),
  (false, 56, .istore_n 1, 1, 1, 0, 0, []),
  (true, 57, .iload_n 1, 1, 1, 0, 0, []),
  (false, 58, .bipush 24, 2, 0, 0, 24, []),
  (false, 60, .if_icmp .gt 93, 3, 75, 0, 0, []),
  (false, 63, .aload_n 0, 1, 0, 0, 0, []),
  (false, 64, .ldc 106, 2, 1001, 1, 550, []),
  (false, 66, .invokevirtual 91, 3, 167, 2, 1, [(474, 0)]),
  (false, 69, .ifCond .ne 12, 3, 41, 0, 0, []),
  (false, 72, .aload_n 0, 1, 0, 0, 0, []),
  (false, 73, .ldc 108, 2, 1002, 1, 551, []),
  (false, 75, .invokevirtual 91, 3, 167, 2, 1, [(474, 0)]),
  (false, 78, .ifCond .eq 75, 3, 75, 0, 0, []),
  (false, 81, .aload_n 0, 1, 0, 0, 0, []),
  (false, 82, .getfield 23, 3, 4, 1, 1, [(202, 23)]),
  (false, 85, .getfield 110, 3, 8, 8, 8, [(179, 110)]),
  (false, 88, .bipush 24, 2, 0, 0, 24, []),
  (false, 90, .if_icmp .lt 13, 3, 52, 0, 0, []),
  (false, 93, .aload_n 0, 1, 0, 0, 0, []),
  (false, 94, .iconst 5, 1, 0, 0, 5, []),
  (false, 95, .aload_n 0, 1, 0, 0, 0, []),
  (false, 96, .getfield 57, 3, 4, 5, 5, [(209, 57)]),
  (false, 99, .invokevirtual 63, 3, 164, 3, 1, [(465, 0)]),
  (false, 102, .freturn, 1, 0, 0, 0, []),
  (false, 103, .aload_n 0, 1, 0, 0, 0, []),
  (false, 104, .ldc 106, 2, 1001, 1, 550, []),
  (false, 106, .invokevirtual 91, 3, 167, 2, 1, [(474, 0)]),
  (false, 109, .istore_n 2, 1, 2, 0, 0, []),
  (false, 110, .aload_n 0, 1, 0, 0, 0, []),
  (false, 111, .invokevirtual 40, 3, 165, 1, 1, [(454, 0)]),
  (false, 114, .ifCond .eq 31, 3, 71, 0, 0, []),
  (false, 117, .iload_n 2, 1, 2, 0, 0, []),
  (false, 118, .ifCond .eq 13, 3, 65, 0, 0, []),
  (false, 121, .aload_n 0, 1, 0, 0, 0, []),
  (false, 122, .invokevirtual 113, 3, 175, 1, 1, [(552, 0)]),
  (false, 125, .ifCond .eq 20, 3, 71, 0, 0, []),
  (false, 128, .goto 10, 3, 68, 0, 0, []),
  (false, 131, .aload_n 0, 1, 0, 0, 0, []),
  (false, 132, .invokevirtual 116, 3, 176, 1, 1, [(582, 0)]),
  (false, 135, .ifCond .eq 10, 3, 71, 0, 0, []),
  (false, 138, .aload_n 0, 1, 0, 0, 0, []),
  (false, 139, .invokevirtual 103, 3, 173, 1, 1, [(542, 0)]),
  (false, 142, .ifCond .ne 5, 3, 73, 0, 0, []),
  (false, 145, .iconst 0, 1, 0, 0, 0, []),
  (false, 146, .freturn, 1, 0, 0, 0, []),
  (false, 147, .iinc 1 1, 3, 1, 0, 1, []),
  (false, 150, .goto (-93), 3, 30, 0, 0, []),
  (false, 153, .aload_n 0, 1, 0, 0, 0, []),
  (false, 154, .invokevirtual 119, 3, 177, 1, 1, [(586, 0)]),
  (false, 157, .ifCond .eq 14, 3, 83, 0, 0, []),
  (false, 160, .aload_n 0, 1, 0, 0, 0, []),
  (false, 161, .invokevirtual 103, 3, 173, 1, 1, [(542, 0)]),
  (false, 164, .ifCond .eq 7, 3, 83, 0, 0, []),
  (false, 167, .iconst 1, 1, 0, 0, 1, []),
  (false, 168, .goto 4, 3, 84, 0, 0, []),
  (false, 171, .iconst 0, 1, 0, 0, 0, []),
  (false, 172, .freturn, 1, 0, 0, 0, []),
  (false, 173, .nop, 0, 0, 0, 0, [])]
/-- Reader.takesSet -/
def zt_175 : List (Bool × zE) := [
  (false, 0, .aload_n 0, 1, 0, 0, 0, []),
  (false, 1, .aload_n 0, 1, 0, 0, 0, []),
  (false, 2, .invokevirtual 84, 3, 168, 1, 1, [(556, 0)]),
  (false, 5, .invokevirtual 95, 3, 171, 2, 1, [(546, 0)]),
  (false, 8, .istore_n 1, 1, 1, 0, 0, []),
  (false, 9, .iload_n 1, 1, 1, 0, 0, []),
  (false, 10, .ifCond .ge 5, 3, 9, 0, 0, []),
  (false, 13, .iconst 0, 1, 0, 0, 0, []),
  (false, 14, .freturn, 1, 0, 0, 0, []),
  (false, 15, .aload_n 0, 1, 0, 0, 0, []),
  (false, 16, .aload_n 0, 1, 0, 0, 0, []),
  (false, 17, .invokevirtual 122, 3, 169, 1, 1, [(563, 0)]),
  (false, 20, .invokevirtual 95, 3, 171, 2, 1, [(546, 0)]),
  (false, 23, .istore_n 2, 1, 2, 0, 0, []),
  (false, 24, .iload_n 2, 1, 2, 0, 0, []),
  (false, 25, .ifCond .ge 5, 3, 18, 0, 0, []),
  (false, 28, .iconst 0, 1, 0, 0, 0, []),
  (false, 29, .freturn, 1, 0, 0, 0, []),
  (false, 30, .aload_n 0, 1, 0, 0, 0, []),
  (false, 31, .getfield 44, 3, 4, 4, 4, [(208, 44)]),
  (false, 34, .iconst 1, 1, 0, 0, 1, []),
  (false, 35, .if_icmp .eq 25, 3, 36, 0, 0, []),
  (false, 38, .aload_n 0, 1, 0, 0, 0, []),
  (false, 39, .getfield 23, 3, 4, 1, 1, [(202, 23)]),
  (false, 42, .aload_n 0, 1, 0, 0, 0, []),
  (false, 43, .getfield 23, 3, 4, 1, 1, [(202, 23)]),
  (false, 46, .getfield 125, 3, 8, 7, 7, [(175, 125)]),
  (false, 49, .iconst 1, 1, 0, 0, 1, []),
  (false, 50, .isub, 1, 0, 0, 0, []),
  (false, 51, .iconst 0, 1, 0, 0, 0, []),
  (false, 52, .iload_n 1, 1, 1, 0, 0, []),
  (false, 53, .iload_n 2, 1, 2, 0, 0, []),
  (false, 54, .iconst 0, 1, 0, 0, 0, []),
  (false, 55, .iconst 0, 1, 0, 0, 0, []),
  (false, 56, .invokevirtual 128, 3, 194, 7, 1, [(567, 0)]),
  (false, 59, .freturn, 1, 0, 0, 0, []),
  (false, 60, .aload_n 0, 1, 0, 0, 0, []),
  (false, 61, .aload_n 0, 1, 0, 0, 0, []),
  (false, 62, .invokevirtual 132, 3, 170, 1, 1, [(571, 0)]),
  (false, 65, .invokevirtual 95, 3, 171, 2, 1, [(546, 0)]),
  (false, 68, .istore_n 3, 1, 3, 0, 0, []),
  (false, 69, .iload_n 3, 1, 3, 0, 0, []),
  (false, 70, .ifCond .ge 5, 3, 45, 0, 0, []),
  (false, 73, .iconst 0, 1, 0, 0, 0, []),
  (false, 74, .freturn, 1, 0, 0, 0, []),
  (false, 75, .aload_n 0, 1, 0, 0, 0, []),
  (false, 76, .aload_n 0, 1, 0, 0, 0, []),
  (false, 77, .invokevirtual 122, 3, 169, 1, 1, [(563, 0)]),
  (false, 80, .invokevirtual 95, 3, 171, 2, 1, [(546, 0)]),
  (false, 83, .istore 4, 2, 4, 0, 0, []),
  (false, 85, .iload 4, 2, 4, 0, 0, []),
  (false, 87, .ifCond .lt 32, 3, 68, 0, 0, []),
  (false, 90, .aload_n 0, 1, 0, 0, 0, []),
  (false, 91, .getfield 23, 3, 4, 1, 1, [(202, 23)]),
  (false, 94, .aload_n 0, 1, 0, 0, 0, []),
  (false, 95, .getfield 23, 3, 4, 1, 1, [(202, 23)]),
  (false, 98, .getfield 125, 3, 8, 7, 7, [(175, 125)]),
  (false, 101, .iconst 1, 1, 0, 0, 1, []),
  (false, 102, .isub, 1, 0, 0, 0, []),
  (false, 103, .iconst 0, 1, 0, 0, 0, []),
  (false, 104, .iload_n 1, 1, 1, 0, 0, []),
  (false, 105, .iload_n 2, 1, 2, 0, 0, []),
  (false, 106, .iload_n 3, 1, 3, 0, 0, []),
  (false, 107, .iload 4, 2, 4, 0, 0, []),
  (false, 109, .invokevirtual 128, 3, 194, 7, 1, [(567, 0)]),
  (false, 112, .ifCond .eq 7, 3, 68, 0, 0, []),
  (false, 115, .iconst 1, 1, 0, 0, 1, []),
  (false, 116, .goto 4, 3, 69, 0, 0, []),
  (false, 119, .iconst 0, 1, 0, 0, 0, []),
  (false, 120, .freturn, 1, 0, 0, 0, []),
  (false, 121, .nop, 0, 0, 0, 0, [])]
/-- Reader.takesSay -/
def zt_176 : List (Bool × zE) := [
  (false, 0, .aload_n 0, 1, 0, 0, 0, []),
  (false, 1, .aload_n 0, 1, 0, 0, 0, []),
  (false, 2, .invokevirtual 122, 3, 169, 1, 1, [(563, 0)]),
  (false, 5, .invokevirtual 95, 3, 171, 2, 1, [(546, 0)]),
  (false, 8, .istore_n 1, 1, 1, 0, 0, []),
  (false, 9, .iload_n 1, 1, 1, 0, 0, []),
  (false, 10, .ifCond .lt 34, 3, 23, 0, 0, []),
  (false, 13, .aload_n 0, 1, 0, 0, 0, []),
  (false, 14, .getfield 23, 3, 4, 1, 1, [(202, 23)]),
  (false, 17, .aload_n 0, 1, 0, 0, 0, []),
  (false, 18, .getfield 23, 3, 4, 1, 1, [(202, 23)]),
  (false, 21, .getfield 125, 3, 8, 7, 7, [(175, 125)]),
  (false, 24, .iconst 1, 1, 0, 0, 1, []),
  (false, 25, .isub, 1, 0, 0, 0, []),
  (false, 26, .iconst 1, 1, 0, 0, 1, []),
  (false, 27, .bipush (-4), 2, 0, 0, (-4), []),
  (false, 29, .iload_n 1, 1, 1, 0, 0, []),
  (false, 30, .bipush (-4), 2, 0, 0, (-4), []),
  (false, 32, .bipush (-4), 2, 0, 0, (-4), []),
  (false, 34, .invokevirtual 128, 3, 194, 7, 1, [(567, 0)]),
  (false, 37, .ifCond .eq 7, 3, 23, 0, 0, []),
  (false, 40, .iconst 1, 1, 0, 0, 1, []),
  (false, 41, .goto 4, 3, 24, 0, 0, []),
  (false, 44, .iconst 0, 1, 0, 0, 0, []),
  (false, 45, .freturn, 1, 0, 0, 0, []),
  (false, 46, .nop, 0, 0, 0, 0, [])]
/-- Reader.takesEnd -/
def zt_177 : List (Bool × zE) := [
  (false, 0, .aload_n 0, 1, 0, 0, 0, []),
  (false, 1, .ldc 135, 2, 1007, 1, 590, []),
  (false, 3, .invokevirtual 91, 3, 167, 2, 1, [(474, 0)]),
  (false, 6, .ifCond .eq 8, 3, 7, 0, 0, []),
  (false, 9, .aload_n 0, 1, 0, 0, 0, []),
  (false, 10, .invokevirtual 40, 3, 165, 1, 1, [(454, 0)]),
  (false, 13, .freturn, 1, 0, 0, 0, []),
  (false, 14, .aload_n 0, 1, 0, 0, 0, []),
  (false, 15, .ldc 137, 2, 1008, 1, 591, []),
  (false, 17, .invokevirtual 91, 3, 167, 2, 1, [(474, 0)]),
  (false, 20, .ifCond .eq 23, 3, 21, 0, 0, []),
  (false, 23, .aload_n 0, 1, 0, 0, 0, []),
  (false, 24, .invokevirtual 40, 3, 165, 1, 1, [(454, 0)]),
  (false, 27, .ifCond .eq 14, 3, 19, 0, 0, []),
  (false, 30, .aload_n 0, 1, 0, 0, 0, []),
  (false, 31, .invokevirtual 139, 3, 178, 1, 1, [(592, 0)]),
  (false, 34, .ifCond .eq 7, 3, 19, 0, 0, []),
  (false, 37, .iconst 1, 1, 0, 0, 1, []),
  (false, 38, .goto 4, 3, 20, 0, 0, []),
  (false, 41, .iconst 0, 1, 0, 0, 0, []),
  (false, 42, .freturn, 1, 0, 0, 0, []),
  (false, 43, .aload_n 0, 1, 0, 0, 0, []),
  (false, 44, .ldc 142, 2, 1009, 1, 601, []),
  (false, 46, .invokevirtual 91, 3, 167, 2, 1, [(474, 0)]),
  (false, 49, .ifCond .eq 23, 3, 35, 0, 0, []),
  (false, 52, .aload_n 0, 1, 0, 0, 0, []),
  (false, 53, .invokevirtual 40, 3, 165, 1, 1, [(454, 0)]),
  (false, 56, .ifCond .eq 14, 3, 33, 0, 0, []),
  (false, 59, .aload_n 0, 1, 0, 0, 0, []),
  (false, 60, .invokevirtual 144, 3, 179, 1, 1, [(602, 0)]),
  (false, 63, .ifCond .eq 7, 3, 33, 0, 0, []),
  (false, 66, .iconst 1, 1, 0, 0, 1, []),
  (false, 67, .goto 4, 3, 34, 0, 0, []),
  (false, 70, .iconst 0, 1, 0, 0, 0, []),
  (false, 71, .freturn, 1, 0, 0, 0, []),
  (false, 72, .aload_n 0, 1, 0, 0, 0, []),
  (false, 73, .iconst 2, 1, 0, 0, 2, []),
  (false, 74, .aload_n 0, 1, 0, 0, 0, []),
  (false, 75, .getfield 57, 3, 4, 5, 5, [(209, 57)]),
  (false, 78, .invokevirtual 63, 3, 164, 3, 1, [(465, 0)]),
  (false, 81, .freturn, 1, 0, 0, 0, []),
  (false, 82, .nop, 0, 0, 0, 0, [])]
/-- Reader.takesGoto -/
def zt_178 : List (Bool × zE) := [
  (false, 0, .aload_n 0, 1, 0, 0, 0, []),
  (false, 1, .invokevirtual 147, 3, 172, 1, 1, [(596, 0)]),
  (false, 4, .istore_n 1, 1, 1, 0, 0, []),
  (false, 5, .aload_n 0, 1, 0, 0, 0, []),
  (false, 6, .getfield 23, 3, 4, 1, 1, [(202, 23)]),
  (false, 9, .aload_n 0, 1, 0, 0, 0, []),
  (false, 10, .getfield 23, 3, 4, 1, 1, [(202, 23)]),
  (false, 13, .getfield 125, 3, 8, 7, 7, [(175, 125)]),
  (false, 16, .iconst 1, 1, 0, 0, 1, []),
  (false, 17, .isub, 1, 0, 0, 0, []),
  (false, 18, .iconst 0, 1, 0, 0, 0, []),
  (false, 19, .iload_n 1, 1, 1, 0, 0, []),
  (false, 20, .bipush (-4), 2, 0, 0, (-4), []),
  (false, 22, .bipush (-4), 2, 0, 0, (-4), []),
  (false, 24, .invokevirtual 150, 3, 195, 6, 0, [(600, 0)]),
  (false, 27, .iload_n 1, 1, 1, 0, 0, []),
  (false, 28, .ifCond .lt 7, 3, 19, 0, 0, []),
  (false, 31, .iconst 1, 1, 0, 0, 1, []),
  (false, 32, .goto 4, 3, 20, 0, 0, []),
  (false, 35, .iconst 0, 1, 0, 0, 0, []),
  (false, 36, .freturn, 1, 0, 0, 0, []),
  (false, 37, .nop, 0, 0, 0, 0, [])]
/-- Reader.takesIf -/
def zt_179 : List (Bool × zE) := [
  (false, 0, .aload_n 0, 1, 0, 0, 0, []),
  (false, 1, .aload_n 0, 1, 0, 0, 0, []),
  (false, 2, .invokevirtual 84, 3, 168, 1, 1, [(556, 0)]),
  (false, 5, .invokevirtual 95, 3, 171, 2, 1, [(546, 0)]),
  (false, 8, .istore_n 1, 1, 1, 0, 0, []),
  (false, 9, .iload_n 1, 1, 1, 0, 0, []),
  (false, 10, .ifCond .ge 5, 3, 9, 0, 0, []),
  (false, 13, .iconst 0, 1, 0, 0, 0, []),
  (false, 14, .freturn, 1, 0, 0, 0, []),
  (false, 15, .aload_n 0, 1, 0, 0, 0, []),
  (false, 16, .invokevirtual 147, 3, 172, 1, 1, [(596, 0)]),
  (false, 19, .istore_n 2, 1, 2, 0, 0, []),
  (false, 20, .iload_n 2, 1, 2, 0, 0, []),
  (false, 21, .ifCond .ge 5, 3, 16, 0, 0, []),
  (false, 24, .iconst 0, 1, 0, 0, 0, []),
  (false, 25, .freturn, 1, 0, 0, 0, []),
  (false, 26, .aload_n 0, 1, 0, 0, 0, []),
  (false, 27, .invokevirtual 147, 3, 172, 1, 1, [(596, 0)]),
  (false, 30, .istore_n 3, 1, 3, 0, 0, []),
  (false, 31, .aload_n 0, 1, 0, 0, 0, []),
  (false, 32, .getfield 23, 3, 4, 1, 1, [(202, 23)]),
  (false, 35, .aload_n 0, 1, 0, 0, 0, []),
  (false, 36, .getfield 23, 3, 4, 1, 1, [(202, 23)]),
  (false, 39, .getfield 125, 3, 8, 7, 7, [(175, 125)]),
  (false, 42, .iconst 1, 1, 0, 0, 1, []),
  (false, 43, .isub, 1, 0, 0, 0, []),
  (false, 44, .iconst 1, 1, 0, 0, 1, []),
  (false, 45, .iload_n 2, 1, 2, 0, 0, []),
  (false, 46, .iload_n 3, 1, 3, 0, 0, []),
  (false, 47, .iload_n 1, 1, 1, 0, 0, []),
  (false, 48, .invokevirtual 150, 3, 195, 6, 0, [(600, 0)]),
  (false, 51, .iload_n 3, 1, 3, 0, 0, []),
  (false, 52, .ifCond .lt 7, 3, 35, 0, 0, []),
  (false, 55, .iconst 1, 1, 0, 0, 1, []),
  (false, 56, .goto 4, 3, 36, 0, 0, []),
  (false, 59, .iconst 0, 1, 0, 0, 0, []),
  (false, 60, .freturn, 1, 0, 0, 0, []),
  (false, 61, .nop, 0, 0, 0, 0, [])]
/-- Reader.leadsToBlocks -/
def zt_180 : List (Bool × zE) := [
  (false, 0, .iconst 0, 1, 0, 0, 0, []),
  (false, 1, .istore_n 1, 1, 1, 0, 0, []),
  (true, 2, .iload_n 1, 1, 1, 0, 0, []),
  (false, 3, .aload_n 0, 1, 0, 0, 0, []),
  (false, 4, .getfield 23, 3, 4, 1, 1, [(202, 23)]),
  (false, 7, .getfield 125, 3, 8, 7, 7, [(175, 125)]),
  (false, 10, .if_icmp .ge 61, 3, 34, 0, 0, []),
  (false, 13, .aload_n 0, 1, 0, 0, 0, []),
  (false, 14, .getfield 23, 3, 4, 1, 1, [(202, 23)]),
  (false, 17, .getfield 154, 3, 8, 3, 3, [(161, 154)]),
  (false, 20, .iload_n 1, 1, 1, 0, 0, []),
  (false, 21, .iaload, 1, 0, 0, 0, []),
  (false, 22, .aload_n 0, 1, 0, 0, 0, []),
  (false, 23, .getfield 23, 3, 4, 1, 1, [(202, 23)]),
  (false, 26, .getfield 125, 3, 8, 7, 7, [(175, 125)]),
  (false, 29, .if_icmp .ge 22, 3, 25, 0, 0, []),
  (false, 32, .aload_n 0, 1, 0, 0, 0, []),
  (false, 33, .getfield 23, 3, 4, 1, 1, [(202, 23)]),
  (false, 36, .getfield 158, 3, 8, 4, 4, [(165, 158)]),
  (false, 39, .iload_n 1, 1, 1, 0, 0, []),
  (false, 40, .iaload, 1, 0, 0, 0, []),
  (false, 41, .aload_n 0, 1, 0, 0, 0, []),
  (false, 42, .getfield 23, 3, 4, 1, 1, [(202, 23)]),
  (false, 45, .getfield 125, 3, 8, 7, 7, [(175, 125)]),
  (false, 48, .if_icmp .lt 17, 3, 32, 0, 0, []),
  (false, 51, .aload_n 0, 1, 0, 0, 0, []),
  (false, 52, .bipush 6, 2, 0, 0, 6, []),
  (false, 54, .aload_n 0, 1, 0, 0, 0, []),
  (false, 55, .getfield 12, 3, 4, 0, 0, [(200, 12)]),
  (false, 58, .getfield 161, 3, 7, 1, 1, [(130, 161)]),
  (false, 61, .invokevirtual 63, 3, 164, 3, 1, [(465, 0)]),
  (false, 64, .freturn, 1, 0, 0, 0, []),
  (false, 65, .iinc 1 1, 3, 1, 0, 1, []),
  (false, 68, .goto (-66), 3, 2, 0, 0, []),
  (false, 71, .iconst 1, 1, 0, 0, 1, []),
  (false, 72, .freturn, 1, 0, 0, 0, []),
  (false, 73, .nop, 0, 0, 0, 0, [])]
/-- Run.go -/
def zt_181 : List (Bool × zE) := [
  (false, 0, .iconst 0, 1, 0, 0, 0, []),
  (false, 1, .istore 5, 2, 5, 0, 0, []),
  (true, 3, .iload 5, 2, 5, 0, 0, []),
  (false, 5, .bipush 6, 2, 0, 0, 6, []),
  (false, 7, .if_icmp .ge 52, 3, 30, 0, 0, []),
  (false, 10, .aload_n 3, 1, 3, 0, 0, []),
  (false, 11, .iload 5, 2, 5, 0, 0, []),
  (false, 13, .iaload, 1, 0, 0, 0, []),
  (false, 14, .ifCond .lt 10, 3, 13, 0, 0, []),
  (false, 17, .aload_n 3, 1, 3, 0, 0, []),
  (false, 18, .iload 5, 2, 5, 0, 0, []),
  (false, 20, .iaload, 1, 0, 0, 0, []),
  (false, 21, .goto 7, 3, 16, 0, 0, []),
  (false, 24, .aload_n 2, 1, 2, 0, 0, []),
  (false, 25, .iload 5, 2, 5, 0, 0, []),
  (false, 27, .iaload, 1, 0, 0, 0, []),
  (false, 28, .istore 6, 2, 6, 0, 0, []),
  (false, 30, .aload_n 0, 1, 0, 0, 0, []),
  (false, 31, .getfield 9, 3, 5, 0, 0, [(334, 9)]),
  (false, 34, .iload 5, 2, 5, 0, 0, []),
  (false, 36, .iload 4, 2, 4, 0, 0, []),
  (false, 38, .iload 5, 2, 5, 0, 0, []),
  (false, 40, .invokestatic 15, 3, 43, 2, 1, [(873, 1)]),
  (false, 43, .ifCond .eq 8, 3, 26, 0, 0, []),
  (false, 46, .iload 6, 2, 6, 0, 0, []),
  (false, 48, .goto 4, 3, 27, 0, 0, []),
  (false, 51, .iconst 0, 1, 0, 0, 0, []),
  (false, 52, .iastore, 1, 0, 0, 0, []),
  (false, 53, .iinc 5 1, 3, 5, 0, 1, []),
  (false, 56, .goto (-53), 3, 2, 0, 0, []),
  (false, 59, .aload_n 0, 1, 0, 0, 0, []),
  (false, 60, .iconst 0, 1, 0, 0, 0, []),
  (false, 61, .putfield 19, 3, 5, 1, 1, [(336, 19)]),
  (false, 64, .aload_n 0, 1, 0, 0, 0, []),
  (false, 65, .iconst 0, 1, 0, 0, 0, []),
  (false, 66, .putfield 23, 3, 5, 2, 2, [(338, 23)]),
  (false, 69, .aload_n 0, 1, 0, 0, 0, []),
  (false, 70, .iconst 0, 1, 0, 0, 0, []),
  (false, 71, .putfield 26, 3, 5, 3, 3, [(340, 26)]),
  (false, 74, .aload_n 0, 1, 0, 0, 0, []),
  (false, 75, .iconst 0, 1, 0, 0, 0, []),
  (false, 76, .putfield 29, 3, 5, 4, 4, [(342, 29)]),
  (false, 79, .aload_n 0, 1, 0, 0, 0, []),
  (false, 80, .aload_n 1, 1, 1, 0, 0, []),
  (false, 81, .getfield 32, 3, 8, 7, 7, [(172, 32)]),
  (false, 84, .ifCond .ne 7, 3, 48, 0, 0, []),
  (false, 87, .iconst 1, 1, 0, 0, 1, []),
  (false, 88, .goto 4, 3, 49, 0, 0, []),
  (false, 91, .iconst 0, 1, 0, 0, 0, []),
  (false, 92, .putstatic 37, 3, 5, 5, 5, [(344, 37)]),
  (false, 95, .iconst 0, 1, 0, 0, 0, []),
  (false, 96, .istore 5, 2, 5, 0, 0, []),
  (false, 98, .iconst 0, 1, 0, 0, 0, []),
  (false, 99, .istore 6, 2, 6, 0, 0, []),
  (true, 101, .iload 6, 2, 6, 0, 0, []),
  (false, 103, .sipush 300, 3, 0, 0, 300, []),
  (false, 106, .if_icmp .ge 42, 3, 77, 0, 0, []),
  (false, 109, .aload_n 0, 1, 0, 0, 0, []),
  (false, 110, .getfield 37, 3, 5, 5, 5, [(344, 37)]),
  (false, 113, .ifCond .ne 35, 3, 77, 0, 0, []),
  (false, 116, .aload_n 0, 1, 0, 0, 0, []),
  (false, 117, .dup, 1, 0, 0, 0, []),
  (false, 118, .getfield 26, 3, 5, 3, 3, [(340, 26)]),
  (false, 121, .iconst 1, 1, 0, 0, 1, []),
  (false, 122, .iadd, 1, 0, 0, 0, []),
  (false, 123, .putfield 26, 3, 5, 3, 3, [(340, 26)]),
  (false, 126, .aload_n 0, 1, 0, 0, 0, []),
  (false, 127, .aload_n 1, 1, 1, 0, 0, []),
  (false, 128, .iload 5, 2, 5, 0, 0, []),
  (false, 130, .invokevirtual 41, 3, 182, 3, 0, [(874, 0)]),
  (false, 133, .aload_n 0, 1, 0, 0, 0, []),
  (false, 134, .aload_n 1, 1, 1, 0, 0, []),
  (false, 135, .iload 5, 2, 5, 0, 0, []),
  (false, 137, .invokevirtual 45, 3, 183, 3, 1, [(886, 0)]),
  (false, 140, .istore 5, 2, 5, 0, 0, []),
  (false, 142, .iinc 6 1, 3, 6, 0, 1, []),
  (false, 145, .goto (-44), 3, 54, 0, 0, []),
  (false, 148, .return_, 1, 0, 0, 0, []),
  (false, 149, .nop, 0, 0, 0, 0, [])]
/-- Run.doSteps -/
def zt_182 : List (Bool × zE) := [
  (false, 0, .aload_n 1, 1, 1, 0, 0, []),
  (false, 1, .iload_n 2, 1, 2, 0, 0, []),
  (false, 2, .invokevirtual 49, 3, 196, 2, 1, [(878, 0)]),
  (false, 5, .ifCond .ne 4, 3, 5, 0, 0, []),
  (false, 8, .return_, 1, 0, 0, 0, []),
  (false, 9, .aload_n 1, 1, 1, 0, 0, []),
  (false, 10, .getfield 53, 3, 8, 0, 0, [(144, 53)]),
  (false, 13, .iload_n 2, 1, 2, 0, 0, []),
  (false, 14, .iaload, 1, 0, 0, 0, []),
  (false, 15, .aload_n 1, 1, 1, 0, 0, []),
  (false, 16, .getfield 56, 3, 8, 1, 1, [(150, 56)]),
  (false, 19, .iload_n 2, 1, 2, 0, 0, []),
  (false, 20, .iaload, 1, 0, 0, 0, []),
  (false, 21, .iadd, 1, 0, 0, 0, []),
  (false, 22, .istore_n 3, 1, 3, 0, 0, []),
  (false, 23, .aload_n 1, 1, 1, 0, 0, []),
  (false, 24, .getfield 53, 3, 8, 0, 0, [(144, 53)]),
  (false, 27, .iload_n 2, 1, 2, 0, 0, []),
  (false, 28, .iaload, 1, 0, 0, 0, []),
  (false, 29, .istore 4, 2, 4, 0, 0, []),
  (true, 31, .iload 4, 2, 4, 0, 0, []),
  (false, 33, .iload_n 3, 1, 3, 0, 0, []),
  (false, 34, .if_icmp .ge 118, 3, 83, 0, 0, []),
  (false, 37, .aload_n 1, 1, 1, 0, 0, []),
  (false, 38, .iload 4, 2, 4, 0, 0, []),
  (false, 40, .iconst 2, 1, 0, 0, 2, []),
  (false, 41, .invokevirtual 59, 3, 199, 3, 1, [(879, 0)]),
  (false, 44, .aload_n 0, 1, 0, 0, 0, []),
  (false, 45, .getfield 9, 3, 5, 0, 0, [(334, 9)]),
  (false, 48, .invokestatic 63, 3, 46, 2, 1, [(880, 1)]),
  (false, 51, .istore 5, 2, 5, 0, 0, []),
  (false, 53, .aload_n 1, 1, 1, 0, 0, []),
  (false, 54, .iload 4, 2, 4, 0, 0, []),
  (false, 56, .iconst 1, 1, 0, 0, 1, []),
  (false, 57, .invokevirtual 59, 3, 199, 3, 1, [(879, 0)]),
  (false, 60, .istore 6, 2, 6, 0, 0, []),
  (false, 62, .iload 6, 2, 6, 0, 0, []),
  (false, 64, .invokestatic 67, 3, 38, 1, 1, [(884, 1)]),
  (false, 67, .ifCond .eq 43, 3, 59, 0, 0, []),
  (false, 70, .aload_n 1, 1, 1, 0, 0, []),
  (false, 71, .iload 4, 2, 4, 0, 0, []),
  (false, 73, .iconst 4, 1, 0, 0, 4, []),
  (false, 74, .invokevirtual 59, 3, 199, 3, 1, [(879, 0)]),
  (false, 77, .aload_n 0, 1, 0, 0, 0, []),
  (false, 78, .getfield 9, 3, 5, 0, 0, [(334, 9)]),
  (false, 81, .invokestatic 63, 3, 46, 2, 1, [(880, 1)]),
  (false, 84, .istore 7, 2, 7, 0, 0, []),
  (false, 86, .aload_n 0, 1, 0, 0, 0, []),
  (false, 87, .getfield 9, 3, 5, 0, 0, [(334, 9)]),
  (false, 90, .iload 6, 2, 6, 0, 0, []),
  (false, 92, .aload_n 1, 1, 1, 0, 0, []),
  (false, 93, .iload 4, 2, 4, 0, 0, []),
  (false, 95, .iconst 3, 1, 0, 0, 3, []),
  (false, 96, .invokevirtual 59, 3, 199, 3, 1, [(879, 0)]),
  (false, 99, .iload 5, 2, 5, 0, 0, []),
  (false, 101, .iload 7, 2, 7, 0, 0, []),
  (false, 103, .invokestatic 70, 3, 47, 3, 1, [(885, 1)]),
  (false, 106, .iastore, 1, 0, 0, 0, []),
  (false, 107, .goto 29, 3, 75, 0, 0, []),
  (false, 110, .aload_n 0, 1, 0, 0, 0, []),
  (false, 111, .aload_n 0, 1, 0, 0, 0, []),
  (false, 112, .getfield 19, 3, 5, 1, 1, [(336, 19)]),
  (false, 115, .bipush 31, 2, 0, 0, 31, []),
  (false, 117, .fmul, 1, 0, 0, 0, []),
  (false, 118, .iload 5, 2, 5, 0, 0, []),
  (false, 120, .fadd, 1, 0, 0, 0, []),
  (false, 121, .iconst 1, 1, 0, 0, 1, []),
  (false, 122, .fadd, 1, 0, 0, 0, []),
  (false, 123, .putfield 19, 3, 5, 1, 1, [(336, 19)]),
  (false, 126, .aload_n 0, 1, 0, 0, 0, []),
  (false, 127, .dup, 1, 0, 0, 0, []),
  (false, 128, .getfield 23, 3, 5, 2, 2, [(338, 23)]),
  (false, 131, .iconst 1, 1, 0, 0, 1, []),
  (false, 132, .iadd, 1, 0, 0, 0, []),
  (false, 133, .putfield 23, 3, 5, 2, 2, [(338, 23)]),
  (false, 136, .aload_n 0, 1, 0, 0, 0, []),
  (false, 137, .dup, 1, 0, 0, 0, []),
  (false, 138, .getfield 29, 3, 5, 4, 4, [(342, 29)]),
  (false, 141, .iconst 1, 1, 0, 0, 1, []),
  (false, 142, .iadd, 1, 0, 0, 0, []),
  (false, 143, .putfield 29, 3, 5, 4, 4, [(342, 29)]),
  (false, 146, .iinc 4 1, 3, 4, 0, 1, []),
  (false, 149, .goto (-118), 3, 20, 0, 0, []),
  (false, 152, .return_, 1, 0, 0, 0, []),
  (false, 153, .nop, 0, 0, 0, 0, [])]
/-- Run.onward -/
def zt_183 : List (Bool × zE) := [
  (false, 0, .aload_n 1, 1, 1, 0, 0, []),
  (false, 1, .iload_n 2, 1, 2, 0, 0, []),
  (false, 2, .iconst 2, 1, 0, 0, 2, []),
  (false, 3, .invokevirtual 74, 3, 197, 3, 1, [(890, 0)]),
  (false, 6, .istore_n 3, 1, 3, 0, 0, []),
  (false, 7, .aload_n 1, 1, 1, 0, 0, []),
  (false, 8, .iload_n 2, 1, 2, 0, 0, []),
  (false, 9, .iconst 5, 1, 0, 0, 5, []),
  (false, 10, .invokevirtual 74, 3, 197, 3, 1, [(890, 0)]),
  (false, 13, .istore 4, 2, 4, 0, 0, []),
  (false, 15, .iload_n 3, 1, 3, 0, 0, []),
  (false, 16, .ifCond .ne 10, 3, 17, 0, 0, []),
  (false, 19, .aload_n 1, 1, 1, 0, 0, []),
  (false, 20, .iload_n 2, 1, 2, 0, 0, []),
  (false, 21, .iconst 3, 1, 0, 0, 3, []),
  (false, 22, .invokevirtual 74, 3, 197, 3, 1, [(890, 0)]),
  (false, 25, .ireturn, 1, 0, 0, 0, []),
  (false, 26, .iload_n 3, 1, 3, 0, 0, []),
  (false, 27, .iconst 1, 1, 0, 0, 1, []),
  (false, 28, .if_icmp .ne 32, 3, 35, 0, 0, []),
  (false, 31, .iload 4, 2, 4, 0, 0, []),
  (false, 33, .invokestatic 67, 3, 38, 1, 1, [(884, 1)]),
  (false, 36, .ifCond .eq 24, 3, 35, 0, 0, []),
  (false, 39, .aload_n 1, 1, 1, 0, 0, []),
  (false, 40, .iload_n 2, 1, 2, 0, 0, []),
  (false, 41, .aload_n 0, 1, 0, 0, 0, []),
  (false, 42, .getfield 9, 3, 5, 0, 0, [(334, 9)]),
  (false, 45, .iload 4, 2, 4, 0, 0, []),
  (false, 47, .iaload, 1, 0, 0, 0, []),
  (false, 48, .ifCond .eq 7, 3, 32, 0, 0, []),
  (false, 51, .iconst 3, 1, 0, 0, 3, []),
  (false, 52, .goto 4, 3, 33, 0, 0, []),
  (false, 55, .iconst 4, 1, 0, 0, 4, []),
  (false, 56, .invokevirtual 74, 3, 197, 3, 1, [(890, 0)]),
  (false, 59, .ireturn, 1, 0, 0, 0, []),
  (false, 60, .aload_n 0, 1, 0, 0, 0, []),
  (false, 61, .iconst 1, 1, 0, 0, 1, []),
  (false, 62, .putstatic 37, 3, 5, 5, 5, [(344, 37)]),
  (false, 65, .iload_n 2, 1, 2, 0, 0, []),
  (false, 66, .ireturn, 1, 0, 0, 0, []),
  (false, 67, .nop, 0, 0, 0, 0, [])]
/-- Sheet.renew -/
def zt_184 : List (Bool × zE) := [
  (false, 0, .aload_n 0, 1, 0, 0, 0, []),
  (false, 1, .iload_n 1, 1, 1, 0, 0, []),
  (false, 2, .putfield 15, 3, 6, 1, 1, [(367, 15)]),
  (false, 5, .aload_n 0, 1, 0, 0, 0, []),
  (false, 6, .iconst 0, 1, 0, 0, 0, []),
  (false, 7, .iload_n 2, 1, 2, 0, 0, []),
  (false, 8, .aload_n 0, 1, 0, 0, 0, []),
  (false, 9, .getfield 9, 3, 6, 0, 0, [(366, 9)]),
  (false, 12, .arraylength, 1, 0, 0, 0, []),
  (false, 13, .monitorexit, 3, 0, 0, 0, [(951, 19)]),
  (false, 16, .monitorenter, 3, 0, 0, 0, [(952, 25)]),
  (false, 19, .putfield 28, 3, 6, 2, 2, [(369, 28)]),
  (false, 22, .iconst 0, 1, 0, 0, 0, []),
  (false, 23, .istore_n 3, 1, 3, 0, 0, []),
  (true, 24, .iload_n 3, 1, 3, 0, 0, []),
  (false, 25, .aload_n 0, 1, 0, 0, 0, []),
  (false, 26, .getfield 9, 3, 6, 0, 0, [(366, 9)]),
  (false, 29, .arraylength, 1, 0, 0, 0, []),
  (false, 30, .if_icmp .ge 16, 3, 26, 0, 0, []),
  (false, 33, .aload_n 0, 1, 0, 0, 0, []),
  (false, 34, .getfield 9, 3, 6, 0, 0, [(366, 9)]),
  (false, 37, .iload_n 3, 1, 3, 0, 0, []),
  (false, 38, .iconst 0, 1, 0, 0, 0, []),
  (false, 39, .iastore, 1, 0, 0, 0, []),
  (false, 40, .iinc 3 1, 3, 3, 0, 1, []),
  (false, 43, .goto (-19), 3, 14, 0, 0, []),
  (false, 46, .return_, 1, 0, 0, 0, []),
  (false, 47, .nop, 0, 0, 0, 0, [])]
/-- Sheet.faultAt -/
def zt_185 : List (Bool × zE) := [
  (false, 0, .aload_n 0, 1, 0, 0, 0, []),
  (false, 1, .getfield 15, 3, 6, 1, 1, [(367, 15)]),
  (false, 4, .bipush (-4), 2, 0, 0, (-4), []),
  (false, 6, .if_icmp .ne 5, 3, 6, 0, 0, []),
  (false, 9, .iconst 1, 1, 0, 0, 1, []),
  (false, 10, .ireturn, 1, 0, 0, 0, []),
  (false, 11, .iload_n 1, 1, 1, 0, 0, []),
  (false, 12, .ifCond .lt 11, 3, 12, 0, 0, []),
  (false, 15, .iload_n 1, 1, 1, 0, 0, []),
  (false, 16, .aload_n 0, 1, 0, 0, 0, []),
  (false, 17, .getfield 28, 3, 6, 2, 2, [(369, 28)]),
  (false, 20, .if_icmp .lt 7, 3, 14, 0, 0, []),
  (false, 23, .iconst 2, 1, 0, 0, 2, []),
  (false, 24, .goto 4, 3, 15, 0, 0, []),
  (false, 27, .iconst 0, 1, 0, 0, 0, []),
  (false, 28, .ireturn, 1, 0, 0, 0, []),
  (false, 29, .nop, 0, 0, 0, 0, [])]
/-- Sheet.faultOfPair -/
def zt_186 : List (Bool × zE) := [
  (false, 0, .aload_n 0, 1, 0, 0, 0, []),
  (false, 1, .getfield 15, 3, 6, 1, 1, [(367, 15)]),
  (false, 4, .bipush (-4), 2, 0, 0, (-4), []),
  (false, 6, .if_icmp .eq 13, 3, 10, 0, 0, []),
  (false, 9, .aload_n 0, 1, 0, 0, 0, []),
  (false, 10, .getfield 15, 3, 6, 1, 1, [(367, 15)]),
  (false, 13, .iload_n 1, 1, 1, 0, 0, []),
  (false, 14, .if_icmp .eq 5, 3, 10, 0, 0, []),
  (false, 17, .iconst 3, 1, 0, 0, 3, []),
  (false, 18, .ireturn, 1, 0, 0, 0, []),
  (false, 19, .aload_n 0, 1, 0, 0, 0, []),
  (false, 20, .iload_n 2, 1, 2, 0, 0, []),
  (false, 21, .invokevirtual 31, 3, 185, 2, 1, [(965, 0)]),
  (false, 24, .istore_n 3, 1, 3, 0, 0, []),
  (false, 25, .iload_n 3, 1, 3, 0, 0, []),
  (false, 26, .ifCond .eq 7, 3, 18, 0, 0, []),
  (false, 29, .iload_n 3, 1, 3, 0, 0, []),
  (false, 30, .goto 10, 3, 23, 0, 0, []),
  (false, 33, .aload_n 0, 1, 0, 0, 0, []),
  (false, 34, .iload_n 2, 1, 2, 0, 0, []),
  (false, 35, .iconst 1, 1, 0, 0, 1, []),
  (false, 36, .iadd, 1, 0, 0, 0, []),
  (false, 37, .invokevirtual 31, 3, 185, 2, 1, [(965, 0)]),
  (false, 40, .ireturn, 1, 0, 0, 0, []),
  (false, 41, .nop, 0, 0, 0, 0, [])]
/-- Sheet.cellAt -/
def zt_187 : List (Bool × zE) := [
  (false, 0, .aload_n 0, 1, 0, 0, 0, []),
  (false, 1, .iload_n 1, 1, 1, 0, 0, []),
  (false, 2, .invokevirtual 31, 3, 185, 2, 1, [(965, 0)]),
  (false, 5, .ifCond .ne 12, 3, 9, 0, 0, []),
  (false, 8, .aload_n 0, 1, 0, 0, 0, []),
  (false, 9, .getfield 9, 3, 6, 0, 0, [(366, 9)]),
  (false, 12, .iload_n 1, 1, 1, 0, 0, []),
  (false, 13, .iaload, 1, 0, 0, 0, []),
  (false, 14, .goto 4, 3, 10, 0, 0, []),
  (false, 17, .iconst 0, 1, 0, 0, 0, []),
  (false, 18, .ireturn, 1, 0, 0, 0, []),
  (false, 19, .nop, 0, 0, 0, 0, [])]
/-- Sheet.put -/
def zt_188 : List (Bool × zE) := [
  (false, 0, .aload_n 0, 1, 0, 0, 0, []),
  (false, 1, .iload_n 1, 1, 1, 0, 0, []),
  (false, 2, .invokevirtual 31, 3, 185, 2, 1, [(965, 0)]),
  (false, 5, .ifCond .eq 4, 3, 5, 0, 0, []),
  (false, 8, .return_, 1, 0, 0, 0, []),
  (false, 9, .aload_n 0, 1, 0, 0, 0, []),
  (false, 10, .getfield 15, 3, 6, 1, 1, [(367, 15)]),
  (false, 13, .ifCond .ne 14, 3, 15, 0, 0, []),
  (false, 16, .aload_n 0, 1, 0, 0, 0, []),
  (false, 17, .getfield 9, 3, 6, 0, 0, [(366, 9)]),
  (false, 20, .iload_n 1, 1, 1, 0, 0, []),
  (false, 21, .iload_n 2, 1, 2, 0, 0, []),
  (false, 22, .d2i, 1, 0, 0, 0, []),
  (false, 23, .iastore, 1, 0, 0, 0, []),
  (false, 24, .goto 29, 3, 31, 0, 0, []),
  (false, 27, .aload_n 0, 1, 0, 0, 0, []),
  (false, 28, .getfield 15, 3, 6, 1, 1, [(367, 15)]),
  (false, 31, .iconst 1, 1, 0, 0, 1, []),
  (false, 32, .if_icmp .ne 14, 3, 26, 0, 0, []),
  (false, 35, .aload_n 0, 1, 0, 0, 0, []),
  (false, 36, .getfield 9, 3, 6, 0, 0, [(366, 9)]),
  (false, 39, .iload_n 1, 1, 1, 0, 0, []),
  (false, 40, .iload_n 2, 1, 2, 0, 0, []),
  (false, 41, .i2s, 1, 0, 0, 0, []),
  (false, 42, .iastore, 1, 0, 0, 0, []),
  (false, 43, .goto 10, 3, 31, 0, 0, []),
  (false, 46, .aload_n 0, 1, 0, 0, 0, []),
  (false, 47, .getfield 9, 3, 6, 0, 0, [(366, 9)]),
  (false, 50, .iload_n 1, 1, 1, 0, 0, []),
  (false, 51, .iload_n 2, 1, 2, 0, 0, []),
  (false, 52, .iastore, 1, 0, 0, 0, []),
  (false, 53, .return_, 1, 0, 0, 0, []),
  (false, 54, .nop, 0, 0, 0, 0, [])]
/-- Tape.append -/
def zt_189 : List (Bool × zE) := [
  (false, 0, .aload_n 0, 1, 0, 0, 0, []),
  (false, 1, .getfield 15, 3, 7, 1, 1, [(128, 15)]),
  (false, 4, .aload_n 0, 1, 0, 0, 0, []),
  (false, 5, .getfield 9, 3, 7, 0, 0, [(127, 9)]),
  (false, 8, .arraylength, 1, 0, 0, 0, []),
  (false, 9, .if_icmp .lt 5, 3, 8, 0, 0, []),
  (false, 12, .iconst 0, 1, 0, 0, 0, []),
  (false, 13, .freturn, 1, 0, 0, 0, []),
  (false, 14, .aload_n 0, 1, 0, 0, 0, []),
  (false, 15, .getfield 9, 3, 7, 0, 0, [(127, 9)]),
  (false, 18, .aload_n 0, 1, 0, 0, 0, []),
  (false, 19, .getfield 15, 3, 7, 1, 1, [(128, 15)]),
  (false, 22, .iload_n 1, 1, 1, 0, 0, []),
  (false, 23, .i2b, 1, 0, 0, 0, []),
  (false, 24, .bastore, 1, 0, 0, 0, []),
  (false, 25, .aload_n 0, 1, 0, 0, 0, []),
  (false, 26, .dup, 1, 0, 0, 0, []),
  (false, 27, .getfield 15, 3, 7, 1, 1, [(128, 15)]),
  (false, 30, .iconst 1, 1, 0, 0, 1, []),
  (false, 31, .iadd, 1, 0, 0, 0, []),
  (false, 32, .putfield 15, 3, 7, 1, 1, [(128, 15)]),
  (false, 35, .iconst 1, 1, 0, 0, 1, []),
  (false, 36, .freturn, 1, 0, 0, 0, []),
  (false, 37, .nop, 0, 0, 0, 0, [])]
/-- Tape.at -/
def zt_190 : List (Bool × zE) := [
  (false, 0, .iload_n 1, 1, 1, 0, 0, []),
  (false, 1, .ifCond .lt 29, 3, 16, 0, 0, []),
  (false, 4, .iload_n 1, 1, 1, 0, 0, []),
  (false, 5, .aload_n 0, 1, 0, 0, 0, []),
  (false, 6, .getfield 15, 3, 7, 1, 1, [(128, 15)]),
  (false, 9, .if_icmp .ge 21, 3, 16, 0, 0, []),
  (false, 12, .iload_n 1, 1, 1, 0, 0, []),
  (false, 13, .aload_n 0, 1, 0, 0, 0, []),
  (false, 14, .getfield 9, 3, 7, 0, 0, [(127, 9)]),
  (false, 17, .arraylength, 1, 0, 0, 0, []),
  (false, 18, .if_icmp .ge 12, 3, 16, 0, 0, []),
  (false, 21, .aload_n 0, 1, 0, 0, 0, []),
  (false, 22, .getfield 9, 3, 7, 0, 0, [(127, 9)]),
  (false, 25, .iload_n 1, 1, 1, 0, 0, []),
  (false, 26, .baload, 1, 0, 0, 0, []),
  (false, 27, .goto 5, 3, 17, 0, 0, []),
  (false, 30, .bipush (-4), 2, 0, 0, (-4), []),
  (false, 32, .ireturn, 1, 0, 0, 0, []),
  (false, 33, .nop, 0, 0, 0, 0, [])]
/-- Web.clear -/
def zt_191 : List (Bool × zE) := [
  (false, 0, .aload_n 0, 1, 0, 0, 0, []),
  (false, 1, .iconst 0, 1, 0, 0, 0, []),
  (false, 2, .putfield 33, 3, 8, 7, 7, [(170, 33)]),
  (false, 5, .aload_n 0, 1, 0, 0, 0, []),
  (false, 6, .iconst 0, 1, 0, 0, 0, []),
  (false, 7, .putfield 37, 3, 8, 8, 8, [(176, 37)]),
  (false, 10, .return_, 1, 0, 0, 0, []),
  (false, 11, .nop, 0, 0, 0, 0, [])]
/-- Web.open -/
def zt_192 : List (Bool × zE) := [
  (false, 0, .aload_n 0, 1, 0, 0, 0, []),
  (false, 1, .getfield 33, 3, 8, 7, 7, [(170, 33)]),
  (false, 4, .aload_n 0, 1, 0, 0, 0, []),
  (false, 5, .getfield 9, 3, 8, 0, 0, [(143, 9)]),
  (false, 8, .arraylength, 1, 0, 0, 0, []),
  (false, 9, .if_icmp .lt 5, 3, 8, 0, 0, []),
  (false, 12, .iconst 0, 1, 0, 0, 0, []),
  (false, 13, .freturn, 1, 0, 0, 0, []),
  (false, 14, .aload_n 0, 1, 0, 0, 0, []),
  (false, 15, .dup, 1, 0, 0, 0, []),
  (false, 16, .getfield 33, 3, 8, 7, 7, [(170, 33)]),
  (false, 19, .iconst 1, 1, 0, 0, 1, []),
  (false, 20, .iadd, 1, 0, 0, 0, []),
  (false, 21, .putfield 33, 3, 8, 7, 7, [(170, 33)]),
  (false, 24, .aload_n 0, 1, 0, 0, 0, []),
  (false, 25, .aload_n 0, 1, 0, 0, 0, []),
  (false, 26, .getfield 33, 3, 8, 7, 7, [(170, 33)]),
  (false, 29, .iconst 1, 1, 0, 0, 1, []),
  (false, 30, .isub, 1, 0, 0, 0, []),
  (false, 31, .iconst 2, 1, 0, 0, 2, []),
  (false, 32, .bipush (-4), 2, 0, 0, (-4), []),
  (false, 34, .bipush (-4), 2, 0, 0, (-4), []),
  (false, 36, .bipush (-4), 2, 0, 0, (-4), []),
  (false, 38, .invokevirtual 40, 3, 195, 6, 0, [(530, 0)]),
  (false, 41, .aload_n 0, 1, 0, 0, 0, []),
  (false, 42, .aload_n 0, 1, 0, 0, 0, []),
  (false, 43, .getfield 33, 3, 8, 7, 7, [(170, 33)]),
  (false, 46, .iconst 1, 1, 0, 0, 1, []),
  (false, 47, .isub, 1, 0, 0, 0, []),
  (false, 48, .invokevirtual 44, 3, 193, 2, 0, [(538, 0)]),
  (false, 51, .iconst 1, 1, 0, 0, 1, []),
  (false, 52, .freturn, 1, 0, 0, 0, []),
  (false, 53, .nop, 0, 0, 0, 0, [])]
/-- Web.startSteps -/
def zt_193 : List (Bool × zE) := [
  (false, 0, .aload_n 0, 1, 0, 0, 0, []),
  (false, 1, .iload_n 1, 1, 1, 0, 0, []),
  (false, 2, .invokevirtual 48, 3, 196, 2, 1, [(534, 0)]),
  (false, 5, .ifCond .eq 20, 3, 15, 0, 0, []),
  (false, 8, .aload_n 0, 1, 0, 0, 0, []),
  (false, 9, .getfield 9, 3, 8, 0, 0, [(143, 9)]),
  (false, 12, .iload_n 1, 1, 1, 0, 0, []),
  (false, 13, .aload_n 0, 1, 0, 0, 0, []),
  (false, 14, .getfield 37, 3, 8, 8, 8, [(176, 37)]),
  (false, 17, .iastore, 1, 0, 0, 0, []),
  (false, 18, .aload_n 0, 1, 0, 0, 0, []),
  (false, 19, .getfield 15, 3, 8, 1, 1, [(149, 15)]),
  (false, 22, .iload_n 1, 1, 1, 0, 0, []),
  (false, 23, .iconst 0, 1, 0, 0, 0, []),
  (false, 24, .iastore, 1, 0, 0, 0, []),
  (false, 25, .return_, 1, 0, 0, 0, []),
  (false, 26, .nop, 0, 0, 0, 0, [])]
/-- Web.append -/
def zt_194 : List (Bool × zE) := [
  (false, 0, .aload_n 0, 1, 0, 0, 0, []),
  (false, 1, .getfield 37, 3, 8, 8, 8, [(176, 37)]),
  (false, 4, .iconst 5, 1, 0, 0, 5, []),
  (false, 5, .imul, 1, 0, 0, 0, []),
  (false, 6, .istore 7, 2, 7, 0, 0, []),
  (false, 8, .aload_n 0, 1, 0, 0, 0, []),
  (false, 9, .iload_n 1, 1, 1, 0, 0, []),
  (false, 10, .invokevirtual 48, 3, 196, 2, 1, [(534, 0)]),
  (false, 13, .ifCond .eq 15, 3, 16, 0, 0, []),
  (false, 16, .iload 7, 2, 7, 0, 0, []),
  (false, 18, .iconst 4, 1, 0, 0, 4, []),
  (false, 19, .iadd, 1, 0, 0, 0, []),
  (false, 20, .aload_n 0, 1, 0, 0, 0, []),
  (false, 21, .getfield 30, 3, 8, 6, 6, [(169, 30)]),
  (false, 24, .arraylength, 1, 0, 0, 0, []),
  (false, 25, .if_icmp .lt 5, 3, 18, 0, 0, []),
  (false, 28, .iconst 0, 1, 0, 0, 0, []),
  (false, 29, .freturn, 1, 0, 0, 0, []),
  (false, 30, .aload_n 0, 1, 0, 0, 0, []),
  (false, 31, .getfield 30, 3, 8, 6, 6, [(169, 30)]),
  (false, 34, .iload 7, 2, 7, 0, 0, []),
  (false, 36, .iconst 0, 1, 0, 0, 0, []),
  (false, 37, .iadd, 1, 0, 0, 0, []),
  (false, 38, .iload_n 2, 1, 2, 0, 0, []),
  (false, 39, .iastore, 1, 0, 0, 0, []),
  (false, 40, .aload_n 0, 1, 0, 0, 0, []),
  (false, 41, .getfield 30, 3, 8, 6, 6, [(169, 30)]),
  (false, 44, .iload 7, 2, 7, 0, 0, []),
  (false, 46, .iconst 1, 1, 0, 0, 1, []),
  (false, 47, .iadd, 1, 0, 0, 0, []),
  (false, 48, .iload_n 3, 1, 3, 0, 0, []),
  (false, 49, .iastore, 1, 0, 0, 0, []),
  (false, 50, .aload_n 0, 1, 0, 0, 0, []),
  (false, 51, .getfield 30, 3, 8, 6, 6, [(169, 30)]),
  (false, 54, .iload 7, 2, 7, 0, 0, []),
  (false, 56, .iconst 2, 1, 0, 0, 2, []),
  (false, 57, .iadd, 1, 0, 0, 0, []),
  (false, 58, .iload 4, 2, 4, 0, 0, []),
  (false, 60, .iastore, 1, 0, 0, 0, []),
  (false, 61, .aload_n 0, 1, 0, 0, 0, []),
  (false, 62, .getfield 30, 3, 8, 6, 6, [(169, 30)]),
  (false, 65, .iload 7, 2, 7, 0, 0, []),
  (false, 67, .iconst 3, 1, 0, 0, 3, []),
  (false, 68, .iadd, 1, 0, 0, 0, []),
  (false, 69, .iload 5, 2, 5, 0, 0, []),
  (false, 71, .iastore, 1, 0, 0, 0, []),
  (false, 72, .aload_n 0, 1, 0, 0, 0, []),
  (false, 73, .getfield 30, 3, 8, 6, 6, [(169, 30)]),
  (false, 76, .iload 7, 2, 7, 0, 0, []),
  (false, 78, .iconst 4, 1, 0, 0, 4, []),
  (false, 79, .iadd, 1, 0, 0, 0, []),
  (false, 80, .iload 6, 2, 6, 0, 0, []),
  (false, 82, .iastore, 1, 0, 0, 0, []),
  (false, 83, .aload_n 0, 1, 0, 0, 0, []),
  (false, 84, .dup, 1, 0, 0, 0, []),
  (false, 85, .getfield 37, 3, 8, 8, 8, [(176, 37)]),
  (false, 88, .iconst 1, 1, 0, 0, 1, []),
  (false, 89, .iadd, 1, 0, 0, 0, []),
  (false, 90, .putfield 37, 3, 8, 8, 8, [(176, 37)]),
  (false, 93, .aload_n 0, 1, 0, 0, 0, []),
  (false, 94, .getfield 15, 3, 8, 1, 1, [(149, 15)]),
  (false, 97, .iload_n 1, 1, 1, 0, 0, []),
  (false, 98, .dup2, 1, 0, 0, 0, []),
  (false, 99, .iaload, 1, 0, 0, 0, []),
  (false, 100, .iconst 1, 1, 0, 0, 1, []),
  (false, 101, .iadd, 1, 0, 0, 0, []),
  (false, 102, .iastore, 1, 0, 0, 0, []),
  (false, 103, .iconst 1, 1, 0, 0, 1, []),
  (false, 104, .freturn, 1, 0, 0, 0, []),
  (false, 105, .nop, 0, 0, 0, 0, [])]
/-- Web.close -/
def zt_195 : List (Bool × zE) := [
  (false, 0, .aload_n 0, 1, 0, 0, 0, []),
  (false, 1, .iload_n 1, 1, 1, 0, 0, []),
  (false, 2, .invokevirtual 48, 3, 196, 2, 1, [(534, 0)]),
  (false, 5, .ifCond .eq 33, 3, 24, 0, 0, []),
  (false, 8, .aload_n 0, 1, 0, 0, 0, []),
  (false, 9, .getfield 18, 3, 8, 2, 2, [(155, 18)]),
  (false, 12, .iload_n 1, 1, 1, 0, 0, []),
  (false, 13, .iload_n 2, 1, 2, 0, 0, []),
  (false, 14, .iastore, 1, 0, 0, 0, []),
  (false, 15, .aload_n 0, 1, 0, 0, 0, []),
  (false, 16, .getfield 21, 3, 8, 3, 3, [(158, 21)]),
  (false, 19, .iload_n 1, 1, 1, 0, 0, []),
  (false, 20, .iload_n 3, 1, 3, 0, 0, []),
  (false, 21, .iastore, 1, 0, 0, 0, []),
  (false, 22, .aload_n 0, 1, 0, 0, 0, []),
  (false, 23, .getfield 24, 3, 8, 4, 4, [(162, 24)]),
  (false, 26, .iload_n 1, 1, 1, 0, 0, []),
  (false, 27, .iload 4, 2, 4, 0, 0, []),
  (false, 29, .iastore, 1, 0, 0, 0, []),
  (false, 30, .aload_n 0, 1, 0, 0, 0, []),
  (false, 31, .getfield 27, 3, 8, 5, 5, [(166, 27)]),
  (false, 34, .iload_n 1, 1, 1, 0, 0, []),
  (false, 35, .iload 5, 2, 5, 0, 0, []),
  (false, 37, .iastore, 1, 0, 0, 0, []),
  (false, 38, .return_, 1, 0, 0, 0, []),
  (false, 39, .nop, 0, 0, 0, 0, [])]
/-- Web.isPlace -/
def zt_196 : List (Bool × zE) := [
  (false, 0, .iload_n 1, 1, 1, 0, 0, []),
  (false, 1, .ifCond .lt 15, 3, 8, 0, 0, []),
  (false, 4, .iload_n 1, 1, 1, 0, 0, []),
  (false, 5, .aload_n 0, 1, 0, 0, 0, []),
  (false, 6, .getfield 33, 3, 8, 7, 7, [(170, 33)]),
  (false, 9, .if_icmp .ge 7, 3, 8, 0, 0, []),
  (false, 12, .iconst 1, 1, 0, 0, 1, []),
  (false, 13, .goto 4, 3, 9, 0, 0, []),
  (false, 16, .iconst 0, 1, 0, 0, 0, []),
  (false, 17, .freturn, 1, 0, 0, 0, []),
  (false, 18, .nop, 0, 0, 0, 0, [])]
/-- Web.placePart -/
def zt_197 : List (Bool × zE) := [
  (false, 0, .aload_n 0, 1, 0, 0, 0, []),
  (false, 1, .iload_n 1, 1, 1, 0, 0, []),
  (false, 2, .invokevirtual 48, 3, 196, 2, 1, [(534, 0)]),
  (false, 5, .ifCond .ne 5, 3, 6, 0, 0, []),
  (false, 8, .iconst (-1), 1, 0, 0, (-1), []),
  (false, 9, .ireturn, 1, 0, 0, 0, []),
  (false, 10, .iload_n 2, 1, 2, 0, 0, []),
  (false, 11, .tableswitch 68 1 5 #[33, 40, 47, 54, 61], 33, 33, 0, 0, [(1, 8), (2, 13), (3, 18), (4, 23), (5, 28)]),
  (false, 44, .aload_n 0, 1, 0, 0, 0, []),
  (false, 45, .getfield 15, 3, 8, 1, 1, [(149, 15)]),
  (false, 48, .iload_n 1, 1, 1, 0, 0, []),
  (false, 49, .iaload, 1, 0, 0, 0, []),
  (false, 50, .ireturn, 1, 0, 0, 0, []),
  (false, 51, .aload_n 0, 1, 0, 0, 0, []),
  (false, 52, .getfield 18, 3, 8, 2, 2, [(155, 18)]),
  (false, 55, .iload_n 1, 1, 1, 0, 0, []),
  (false, 56, .iaload, 1, 0, 0, 0, []),
  (false, 57, .ireturn, 1, 0, 0, 0, []),
  (false, 58, .aload_n 0, 1, 0, 0, 0, []),
  (false, 59, .getfield 21, 3, 8, 3, 3, [(158, 21)]),
  (false, 62, .iload_n 1, 1, 1, 0, 0, []),
  (false, 63, .iaload, 1, 0, 0, 0, []),
  (false, 64, .ireturn, 1, 0, 0, 0, []),
  (false, 65, .aload_n 0, 1, 0, 0, 0, []),
  (false, 66, .getfield 24, 3, 8, 4, 4, [(162, 24)]),
  (false, 69, .iload_n 1, 1, 1, 0, 0, []),
  (false, 70, .iaload, 1, 0, 0, 0, []),
  (false, 71, .ireturn, 1, 0, 0, 0, []),
  (false, 72, .aload_n 0, 1, 0, 0, 0, []),
  (false, 73, .getfield 27, 3, 8, 5, 5, [(166, 27)]),
  (false, 76, .iload_n 1, 1, 1, 0, 0, []),
  (false, 77, .iaload, 1, 0, 0, 0, []),
  (false, 78, .ireturn, 1, 0, 0, 0, []),
  (false, 79, .iconst (-1), 1, 0, 0, (-1), []),
  (false, 80, .ireturn, 1, 0, 0, 0, []),
  (false, 81, .nop, 0, 0, 0, 0, [])]
/-- Web.setPlacePart -/
def zt_198 : List (Bool × zE) := [
  (false, 0, .aload_n 0, 1, 0, 0, 0, []),
  (false, 1, .iload_n 1, 1, 1, 0, 0, []),
  (false, 2, .invokevirtual 48, 3, 196, 2, 1, [(534, 0)]),
  (false, 5, .ifCond .ne 4, 3, 5, 0, 0, []),
  (false, 8, .return_, 1, 0, 0, 0, []),
  (false, 9, .iload_n 2, 1, 2, 0, 0, []),
  (false, 10, .iconst 3, 1, 0, 0, 3, []),
  (false, 11, .if_icmp .ne 13, 3, 14, 0, 0, []),
  (false, 14, .aload_n 0, 1, 0, 0, 0, []),
  (false, 15, .getfield 21, 3, 8, 3, 3, [(158, 21)]),
  (false, 18, .iload_n 1, 1, 1, 0, 0, []),
  (false, 19, .iload_n 3, 1, 3, 0, 0, []),
  (false, 20, .iastore, 1, 0, 0, 0, []),
  (false, 21, .goto 30, 3, 31, 0, 0, []),
  (false, 24, .iload_n 2, 1, 2, 0, 0, []),
  (false, 25, .iconst 4, 1, 0, 0, 4, []),
  (false, 26, .if_icmp .ne 13, 3, 23, 0, 0, []),
  (false, 29, .aload_n 0, 1, 0, 0, 0, []),
  (false, 30, .getfield 24, 3, 8, 4, 4, [(162, 24)]),
  (false, 33, .iload_n 1, 1, 1, 0, 0, []),
  (false, 34, .iload_n 3, 1, 3, 0, 0, []),
  (false, 35, .iastore, 1, 0, 0, 0, []),
  (false, 36, .goto 15, 3, 31, 0, 0, []),
  (false, 39, .iload_n 2, 1, 2, 0, 0, []),
  (false, 40, .iconst 5, 1, 0, 0, 5, []),
  (false, 41, .if_icmp .ne 10, 3, 31, 0, 0, []),
  (false, 44, .aload_n 0, 1, 0, 0, 0, []),
  (false, 45, .getfield 27, 3, 8, 5, 5, [(166, 27)]),
  (false, 48, .iload_n 1, 1, 1, 0, 0, []),
  (false, 49, .iload_n 3, 1, 3, 0, 0, []),
  (false, 50, .iastore, 1, 0, 0, 0, []),
  (false, 51, .return_, 1, 0, 0, 0, []),
  (false, 52, .nop, 0, 0, 0, 0, [])]
/-- Web.stepPart -/
def zt_199 : List (Bool × zE) := [
  (false, 0, .iload_n 1, 1, 1, 0, 0, []),
  (false, 1, .ifCond .lt 20, 3, 11, 0, 0, []),
  (false, 4, .iload_n 1, 1, 1, 0, 0, []),
  (false, 5, .aload_n 0, 1, 0, 0, 0, []),
  (false, 6, .getfield 37, 3, 8, 8, 8, [(176, 37)]),
  (false, 9, .if_icmp .ge 12, 3, 11, 0, 0, []),
  (false, 12, .iload_n 2, 1, 2, 0, 0, []),
  (false, 13, .ifCond .lt 8, 3, 11, 0, 0, []),
  (false, 16, .iload_n 2, 1, 2, 0, 0, []),
  (false, 17, .iconst 5, 1, 0, 0, 5, []),
  (false, 18, .if_icmp .lt 5, 3, 13, 0, 0, []),
  (false, 21, .iconst (-1), 1, 0, 0, (-1), []),
  (false, 22, .ireturn, 1, 0, 0, 0, []),
  (false, 23, .aload_n 0, 1, 0, 0, 0, []),
  (false, 24, .getfield 30, 3, 8, 6, 6, [(169, 30)]),
  (false, 27, .iload_n 1, 1, 1, 0, 0, []),
  (false, 28, .iconst 5, 1, 0, 0, 5, []),
  (false, 29, .imul, 1, 0, 0, 0, []),
  (false, 30, .iload_n 2, 1, 2, 0, 0, []),
  (false, 31, .iadd, 1, 0, 0, 0, []),
  (false, 32, .iaload, 1, 0, 0, 0, []),
  (false, 33, .ireturn, 1, 0, 0, 0, []),
  (false, 34, .nop, 0, 0, 0, 0, [])]
/-- Web.setStepPart -/
def zt_200 : List (Bool × zE) := [
  (false, 0, .iload_n 1, 1, 1, 0, 0, []),
  (false, 1, .ifCond .lt 31, 3, 20, 0, 0, []),
  (false, 4, .iload_n 1, 1, 1, 0, 0, []),
  (false, 5, .aload_n 0, 1, 0, 0, 0, []),
  (false, 6, .getfield 37, 3, 8, 8, 8, [(176, 37)]),
  (false, 9, .if_icmp .ge 23, 3, 20, 0, 0, []),
  (false, 12, .iload_n 2, 1, 2, 0, 0, []),
  (false, 13, .ifCond .lt 19, 3, 20, 0, 0, []),
  (false, 16, .iload_n 2, 1, 2, 0, 0, []),
  (false, 17, .iconst 5, 1, 0, 0, 5, []),
  (false, 18, .if_icmp .ge 14, 3, 20, 0, 0, []),
  (false, 21, .aload_n 0, 1, 0, 0, 0, []),
  (false, 22, .getfield 30, 3, 8, 6, 6, [(169, 30)]),
  (false, 25, .iload_n 1, 1, 1, 0, 0, []),
  (false, 26, .iconst 5, 1, 0, 0, 5, []),
  (false, 27, .imul, 1, 0, 0, 0, []),
  (false, 28, .iload_n 2, 1, 2, 0, 0, []),
  (false, 29, .iadd, 1, 0, 0, 0, []),
  (false, 30, .iload_n 3, 1, 3, 0, 0, []),
  (false, 31, .iastore, 1, 0, 0, 0, []),
  (false, 32, .return_, 1, 0, 0, 0, []),
  (false, 33, .nop, 0, 0, 0, 0, [])]
/-- Web.copyFrom -/
def zt_201 : List (Bool × zE) := [
  (false, 0, .aload_n 0, 1, 0, 0, 0, []),
  (false, 1, .aload_n 1, 1, 1, 0, 0, []),
  (false, 2, .getfield 33, 3, 8, 7, 7, [(170, 33)]),
  (false, 5, .putfield 33, 3, 8, 7, 7, [(170, 33)]),
  (false, 8, .aload_n 0, 1, 0, 0, 0, []),
  (false, 9, .aload_n 1, 1, 1, 0, 0, []),
  (false, 10, .getfield 37, 3, 8, 8, 8, [(176, 37)]),
  (false, 13, .putfield 37, 3, 8, 8, 8, [(176, 37)]),
  (false, 16, .aload_n 1, 1, 1, 0, 0, []),
  (false, 17, .getfield 9, 3, 8, 0, 0, [(143, 9)]),
  (false, 20, .aload_n 0, 1, 0, 0, 0, []),
  (false, 21, .getfield 9, 3, 8, 0, 0, [(143, 9)]),
  (false, 24, .invokestatic 52, 3, 49, 2, 0, [(618, 1)]),
  (false, 27, .aload_n 1, 1, 1, 0, 0, []),
  (false, 28, .getfield 15, 3, 8, 1, 1, [(149, 15)]),
  (false, 31, .aload_n 0, 1, 0, 0, 0, []),
  (false, 32, .getfield 15, 3, 8, 1, 1, [(149, 15)]),
  (false, 35, .invokestatic 52, 3, 49, 2, 0, [(618, 1)]),
  (false, 38, .aload_n 1, 1, 1, 0, 0, []),
  (false, 39, .getfield 18, 3, 8, 2, 2, [(155, 18)]),
  (false, 42, .aload_n 0, 1, 0, 0, 0, []),
  (false, 43, .getfield 18, 3, 8, 2, 2, [(155, 18)]),
  (false, 46, .invokestatic 52, 3, 49, 2, 0, [(618, 1)]),
  (false, 49, .aload_n 1, 1, 1, 0, 0, []),
  (false, 50, .getfield 21, 3, 8, 3, 3, [(158, 21)]),
  (false, 53, .aload_n 0, 1, 0, 0, 0, []),
  (false, 54, .getfield 21, 3, 8, 3, 3, [(158, 21)]),
  (false, 57, .invokestatic 52, 3, 49, 2, 0, [(618, 1)]),
  (false, 60, .aload_n 1, 1, 1, 0, 0, []),
  (false, 61, .getfield 24, 3, 8, 4, 4, [(162, 24)]),
  (false, 64, .aload_n 0, 1, 0, 0, 0, []),
  (false, 65, .getfield 24, 3, 8, 4, 4, [(162, 24)]),
  (false, 68, .invokestatic 52, 3, 49, 2, 0, [(618, 1)]),
  (false, 71, .aload_n 1, 1, 1, 0, 0, []),
  (false, 72, .getfield 27, 3, 8, 5, 5, [(166, 27)]),
  (false, 75, .aload_n 0, 1, 0, 0, 0, []),
  (false, 76, .getfield 27, 3, 8, 5, 5, [(166, 27)]),
  (false, 79, .invokestatic 52, 3, 49, 2, 0, [(618, 1)]),
  (false, 82, .aload_n 1, 1, 1, 0, 0, []),
  (false, 83, .getfield 30, 3, 8, 6, 6, [(169, 30)]),
  (false, 86, .aload_n 0, 1, 0, 0, 0, []),
  (false, 87, .getfield 30, 3, 8, 6, 6, [(169, 30)]),
  (false, 90, .invokestatic 52, 3, 49, 2, 0, [(618, 1)]),
  (false, 93, .return_, 1, 0, 0, 0, []),
  (false, 94, .nop, 0, 0, 0, 0, [])]
def zx_cds_0 : List (List (Bool × zE)) := [zt_0,
  zt_1,
  zt_2,
  zt_3,
  zt_4,
  zt_5,
  zt_6,
  zt_7,
  zt_8,
  zt_9,
  zt_10,
  zt_11,
  zt_12,
  zt_13,
  zt_14,
  zt_15,
  zt_16,
  zt_17,
  zt_18,
  zt_19,
  zt_20,
  zt_21,
  zt_22,
  zt_23,
  zt_24,
  zt_25,
  zt_26,
  zt_27,
  zt_28,
  zt_29,
  zt_30,
  zt_31,
  zt_32,
  zt_33,
  zt_34,
  zt_35,
  zt_36,
  zt_37,
  zt_38,
  zt_39]
def zx_cds_1 : List (List (Bool × zE)) := [zt_40,
  zt_41,
  zt_42,
  zt_43,
  zt_44,
  zt_45,
  zt_46,
  zt_47,
  zt_48,
  zt_49,
  zt_50,
  zt_51,
  zt_52,
  zt_53,
  zt_54,
  zt_55,
  zt_56,
  zt_57,
  zt_58,
  zt_59,
  zt_60,
  zt_61,
  zt_62,
  zt_63,
  zt_64,
  zt_65,
  zt_66,
  zt_67,
  zt_68,
  zt_69,
  zt_70,
  zt_71,
  zt_72,
  zt_73,
  zt_74,
  zt_75,
  zt_76,
  zt_77,
  zt_78,
  zt_79]
def zx_cds_2 : List (List (Bool × zE)) := [zt_80,
  zt_81,
  zt_82,
  zt_83,
  zt_84,
  zt_85,
  zt_86,
  zt_87,
  zt_88,
  zt_89,
  zt_90,
  zt_91,
  zt_92,
  zt_93,
  zt_94,
  zt_95,
  zt_96,
  zt_97,
  zt_98,
  zt_99,
  zt_100,
  zt_101,
  zt_102,
  zt_103,
  zt_104,
  zt_105,
  zt_106,
  zt_107,
  zt_108,
  zt_109,
  zt_110,
  zt_111,
  zt_112,
  zt_113,
  zt_114,
  zt_115,
  zt_116,
  zt_117,
  zt_118,
  zt_119]
def zx_cds_3 : List (List (Bool × zE)) := [zt_120,
  zt_121,
  zt_122,
  zt_123,
  zt_124,
  zt_125,
  zt_126,
  zt_127,
  zt_128,
  zt_129,
  zt_130,
  zt_131,
  zt_132,
  zt_133,
  zt_134,
  zt_135,
  zt_136,
  zt_137,
  zt_138,
  zt_139,
  zt_140,
  zt_141,
  zt_142,
  zt_143,
  zt_144,
  zt_145,
  zt_146,
  zt_147,
  zt_148,
  zt_149,
  zt_150,
  zt_151,
  zt_152,
  zt_153,
  zt_154,
  zt_155,
  zt_156,
  zt_157,
  zt_158,
  zt_159]
def zx_cds_4 : List (List (Bool × zE)) := [zt_160,
  zt_161,
  zt_162,
  zt_163,
  zt_164,
  zt_165,
  zt_166,
  zt_167,
  zt_168,
  zt_169,
  zt_170,
  zt_171,
  zt_172,
  zt_173,
  zt_174,
  zt_175,
  zt_176,
  zt_177,
  zt_178,
  zt_179,
  zt_180,
  zt_181,
  zt_182,
  zt_183,
  zt_184,
  zt_185,
  zt_186,
  zt_187,
  zt_188,
  zt_189,
  zt_190,
  zt_191,
  zt_192,
  zt_193,
  zt_194,
  zt_195,
  zt_196,
  zt_197,
  zt_198,
  zt_199]
def zx_cds_5 : List (List (Bool × zE)) := [zt_200,
  zt_201]
def zx_cds : List (List (Bool × zE)) := zx_cds_0 ++ zx_cds_1 ++ zx_cds_2 ++ zx_cds_3 ++ zx_cds_4 ++ zx_cds_5
def zx_mts_0 : List (MethodName × ByteArray × Nat × Option FieldType × Nat × Nat × Nat × Nat × Nat × Nat × Nat) := [(⟨"PointMaker", "feed", "(I)I"⟩, prog_1_method_2_code, 2, (some .int), 1, 21, 9, 433, 431, 432, 90),
  (⟨"PointMaker", "end", "(I)I"⟩, prog_1_method_3_code, 3, (some .int), 0, 0, 9, 441, 439, 440, 90),
  (⟨"PointMaker", "text", "()I"⟩, prog_1_method_4_code, 3, (some .int), 9, 221, 9, 445, 443, 444, 90),
  (⟨"PointMaker", "fault", "()I"⟩, prog_1_method_5_code, 1, (some .int), 0, 0, 9, 630, 628, 629, 90),
  (⟨"PointMaker", "rule", "(I)I"⟩, prog_1_method_6_code, 2, (some .int), 8, 201, 9, 634, 632, 633, 90),
  (⟨"PointMaker", "block", "(II)I"⟩, prog_1_method_7_code, 3, (some .int), 8, 187, 9, 786, 784, 785, 90),
  (⟨"PointMaker", "step", "(II)I"⟩, prog_1_method_8_code, 3, (some .int), 1, 22, 9, 796, 794, 795, 90),
  (⟨"PointMaker", "give", "(II)I"⟩, prog_1_method_9_code, 4, (some .int), 1, 20, 9, 801, 799, 800, 90),
  (⟨"PointMaker", "wise", "(I)I"⟩, prog_1_method_10_code, 3, (some .int), 0, 0, 9, 806, 804, 805, 90),
  (⟨"PointMaker", "point", "(II)I"⟩, prog_1_method_11_code, 3, (some .int), 8, 200, 9, 810, 808, 809, 90),
  (⟨"PointMaker", "held", "(II)I"⟩, prog_1_method_12_code, 3, (some .int), 8, 187, 9, 822, 820, 821, 90),
  (⟨"PointMaker", "left", "(III)I"⟩, prog_1_method_13_code, 4, (some .int), 8, 187, 9, 827, 825, 826, 90),
  (⟨"PointMaker", "shown", "(II)I"⟩, prog_1_method_14_code, 3, (some .int), 8, 200, 9, 835, 833, 834, 90),
  (⟨"PointMaker", "where", "(IIII)I"⟩, prog_1_method_15_code, 5, (some .int), 8, 200, 9, 843, 841, 842, 90),
  (⟨"PointMaker", "begin", "(II)I"⟩, prog_1_method_16_code, 4, (some .int), 2, 41, 9, 860, 858, 859, 90),
  (⟨"PointMaker", "run", "()I"⟩, prog_1_method_17_code, 1, (some .int), 4, 96, 9, 867, 865, 866, 90),
  (⟨"PointMaker", "runLeft", "()I"⟩, prog_1_method_18_code, 1, (some .int), 8, 187, 9, 894, 892, 893, 90),
  (⟨"PointMaker", "told", "(I)I"⟩, prog_1_method_19_code, 3, (some .int), 1, 20, 9, 898, 896, 897, 90),
  (⟨"PointMaker", "agree", "(III)I"⟩, prog_1_method_20_code, 8, (some .int), 8, 187, 9, 902, 900, 901, 90),
  (⟨"PointMaker", "alter", "(III)I"⟩, prog_1_method_21_code, 6, (some .int), 1, 23, 9, 911, 909, 910, 90),
  (⟨"PointMaker", "lead", "(III)I"⟩, prog_1_method_22_code, 5, (some .int), 2, 44, 9, 919, 917, 918, 90),
  (⟨"PointMaker", "keep", "(I)I"⟩, prog_1_method_23_code, 3, (some .int), 4, 103, 9, 927, 925, 926, 90),
  (⟨"PointMaker", "back", "(I)I"⟩, prog_1_method_24_code, 2, (some .int), 4, 103, 9, 936, 934, 935, 90),
  (⟨"PointMaker", "sheet", "(III)I"⟩, prog_1_method_25_code, 4, (some .int), 2, 44, 9, 940, 938, 939, 90),
  (⟨"PointMaker", "lay", "(III)I"⟩, prog_1_method_26_code, 5, (some .int), 2, 43, 9, 956, 954, 955, 90),
  (⟨"PointMaker", "read", "(IIII)I"⟩, prog_1_method_27_code, 11, (some .int), 2, 44, 9, 969, 967, 968, 90),
  (⟨"PointMaker", "torn", "()I"⟩, prog_1_method_28_code, 1, (some .int), 0, 0, 9, 981, 979, 980, 90),
  (⟨"PointMaker", "count", "(I)I"⟩, prog_1_method_29_code, 2, (some .int), 2, 44, 9, 985, 983, 984, 90),
  (⟨"PointMaker", "refresh", "()V"⟩, prog_1_method_30_code, 1, none, 7, 167, 9, 638, 637, 17, 90),
  (⟨"PointMaker", "write", "(I)V"⟩, prog_1_method_31_code, 2, none, 7, 179, 9, 818, 817, 32, 90),
  (⟨"PointMaker", "lettersOfAll", "()I"⟩, prog_1_method_32_code, 3, (some .int), 7, 179, 9, 735, 734, 27, 90),
  (⟨"PointMaker", "compareRuns", "(I)I"⟩, prog_1_method_33_code, 3, (some .int), 1, 21, 9, 907, 906, 37, 90),
  (⟨"PointMaker", "startsSum", "()I"⟩, prog_1_method_34_code, 3, (some .int), 0, 0, 9, 989, 988, 38, 90),
  (⟨"PointMaker", "numbersSum", "()I"⟩, prog_1_method_35_code, 3, (some .int), 1, 22, 9, 993, 992, 39, 90),
  (⟨"PointMaker", "numberOrZero", "(I)I"⟩, prog_1_method_36_code, 1, (some .int), 0, 0, 9, 996, 995, 0, 90),
  (⟨"PointMaker", "isBlock", "(I)Z"⟩, prog_1_method_37_code, 2, (some .boolean), 0, 0, 9, 790, 789, 30, 90),
  (⟨"PointMaker", "isPoint", "(I)Z"⟩, prog_1_method_38_code, 2, (some .boolean), 0, 0, 9, 814, 813, 31, 90),
  (⟨"PointMaker", "isLeft", "(II)Z"⟩, prog_1_method_39_code, 3, (some .boolean), 1, 21, 9, 831, 830, 33, 90),
  (⟨"PointMaker", "isVariable", "(I)Z"⟩, prog_1_method_40_code, 1, (some .boolean), 0, 0, 9, 562, 561, 0, 90),
  (⟨"PointMaker", "canBegin", "(II)Z"⟩, prog_1_method_41_code, 2, (some .boolean), 1, 20, 9, 863, 862, 0, 90)]
def zx_mts_1 : List (MethodName × ByteArray × Nat × Option FieldType × Nat × Nat × Nat × Nat × Nat × Nat × Nat) := [(⟨"PointMaker", "isSheet", "(I)Z"⟩, prog_1_method_42_code, 1, (some .boolean), 0, 0, 9, 943, 942, 0, 90),
  (⟨"PointMaker", "isLane", "(I)Z"⟩, prog_1_method_43_code, 1, (some .boolean), 0, 0, 9, 946, 945, 0, 90),
  (⟨"PointMaker", "allBits", "()I"⟩, prog_1_method_44_code, 0, (some .int), 0, 0, 9, 649, 648, 0, 90),
  (⟨"PointMaker", "hasBit", "(II)Z"⟩, prog_1_method_45_code, 2, (some .boolean), 0, 0, 9, 696, 695, 0, 90),
  (⟨"PointMaker", "variableOf", "(I)I"⟩, prog_1_method_46_code, 2, (some .int), 0, 0, 9, 719, 718, 0, 90),
  (⟨"PointMaker", "bitOf", "(I)I"⟩, prog_1_method_47_code, 1, (some .int), 0, 0, 9, 667, 666, 0, 90),
  (⟨"PointMaker", "valueOf", "(I[I)I"⟩, prog_1_method_48_code, 3, (some .int), 1, 21, 9, 882, 881, 0, 90),
  (⟨"PointMaker", "result", "(III)I"⟩, prog_1_method_49_code, 3, (some .int), 1, 21, 9, 723, 722, 0, 90),
  (⟨"PointMaker", "nameOf", "(I)Ljava/lang/String;"⟩, prog_1_method_50_code, 1, (some (.object "java/lang/String")), 0, 0, 9, 577, 576, 0, 90),
  (⟨"PointMaker", "copyRow", "([I[I)V"⟩, prog_1_method_51_code, 2, none, 1, 40, 9, 620, 619, 0, 90),
  (⟨"PointMakerModel", "in", "(JJJ)Z"⟩, prog_12_method_3_code, 6, (some .boolean), 0, 0, 10, 1149, 1148, 0, 100),
  (⟨"PointMakerModel", "feed", "(I)I"⟩, prog_12_method_4_code, 2, (some .int), 1, 25, 10, 1145, 1143, 1144, 100),
  (⟨"PointMakerModel", "end", "(I)I"⟩, prog_12_method_5_code, 3, (some .int), 1, 25, 10, 1153, 1151, 1152, 100),
  (⟨"PointMakerModel", "byteAt", "(I)I"⟩, prog_12_method_6_code, 2, (some .int), 0, 0, 10, 1165, 1164, 41, 100),
  (⟨"PointMakerModel", "fails", "(I)V"⟩, prog_12_method_7_code, 2, none, 0, 0, 10, 1173, 1172, 42, 100),
  (⟨"PointMakerModel", "nameHere", "()I"⟩, prog_12_method_8_code, 4, (some .int), 1, 21, 10, 1181, 1180, 44, 100),
  (⟨"PointMakerModel", "readsOn", "()V"⟩, prog_12_method_9_code, 2, none, 1, 25, 10, 1161, 1160, 40, 100),
  (⟨"PointMakerModel", "numberRead", "(I)I"⟩, prog_12_method_10_code, 3, (some .int), 2, 46, 10, 1202, 1201, 49, 100),
  (⟨"PointMakerModel", "variableRead", "()I"⟩, prog_12_method_11_code, 3, (some .int), 2, 46, 10, 1193, 1192, 47, 100),
  (⟨"PointMakerModel", "operandRead", "()I"⟩, prog_12_method_12_code, 1, (some .int), 3, 68, 10, 1198, 1197, 48, 100),
  (⟨"PointMakerModel", "endsLine", "()V"⟩, prog_12_method_13_code, 1, none, 2, 46, 10, 1185, 1184, 45, 100),
  (⟨"PointMakerModel", "readStep", "(II)V"⟩, prog_12_method_14_code, 5, none, 4, 88, 10, 1189, 1188, 46, 100),
  (⟨"PointMakerModel", "readEnd", "(II)V"⟩, prog_12_method_15_code, 3, none, 3, 68, 10, 1210, 1209, 50, 100),
  (⟨"PointMakerModel", "readBlock", "()V"⟩, prog_12_method_16_code, 3, none, 5, 112, 10, 1177, 1176, 43, 100),
  (⟨"PointMakerModel", "isWhole", "()Z"⟩, prog_12_method_17_code, 4, (some .boolean), 0, 0, 10, 1214, 1213, 51, 100),
  (⟨"PointMakerModel", "text", "()I"⟩, prog_12_method_18_code, 2, (some .int), 6, 134, 10, 1157, 1155, 1156, 100),
  (⟨"PointMakerModel", "fault", "()I"⟩, prog_12_method_19_code, 1, (some .int), 0, 0, 10, 1222, 1220, 1221, 100),
  (⟨"PointMakerModel", "copies", "(II)V"⟩, prog_12_method_20_code, 4, none, 0, 0, 10, 1218, 1217, 52, 100),
  (⟨"PointMakerModel", "isUnknown", "(I)Z"⟩, prog_12_method_21_code, 2, (some .boolean), 0, 0, 10, 1238, 1237, 55, 100),
  (⟨"PointMakerModel", "knows", "()V"⟩, prog_12_method_22_code, 4, none, 1, 21, 10, 1234, 1233, 54, 100),
  (⟨"PointMakerModel", "bitOf", "(I)I"⟩, prog_12_method_23_code, 1, (some .int), 0, 0, 10, 1249, 1248, 0, 100),
  (⟨"PointMakerModel", "readIn", "(I)I"⟩, prog_12_method_24_code, 6, (some .int), 1, 20, 10, 1246, 1245, 57, 100),
  (⟨"PointMakerModel", "reads", "()V"⟩, prog_12_method_25_code, 3, none, 2, 45, 10, 1242, 1241, 56, 100),
  (⟨"PointMakerModel", "isPointOf", "(II)Z"⟩, prog_12_method_26_code, 5, (some .boolean), 1, 24, 10, 1257, 1256, 59, 100),
  (⟨"PointMakerModel", "toldAt", "(II)I"⟩, prog_12_method_27_code, 5, (some .int), 0, 0, 10, 1261, 1260, 60, 100),
  (⟨"PointMakerModel", "pointOf", "(I)I"⟩, prog_12_method_28_code, 3, (some .int), 2, 48, 10, 1253, 1252, 58, 100),
  (⟨"PointMakerModel", "numberIn", "(I)I"⟩, prog_12_method_29_code, 2, (some .int), 0, 0, 10, 1273, 1272, 63, 100),
  (⟨"PointMakerModel", "brings", "(III)I"⟩, prog_12_method_30_code, 3, (some .int), 0, 0, 10, 1276, 1275, 0, 100),
  (⟨"PointMakerModel", "leftOperand", "(I)I"⟩, prog_12_method_31_code, 2, (some .int), 1, 21, 10, 1280, 1279, 64, 100),
  (⟨"PointMakerModel", "leaves", "(II)V"⟩, prog_12_method_32_code, 4, none, 2, 42, 10, 1269, 1268, 62, 100)]
def zx_mts_2 : List (MethodName × ByteArray × Nat × Option FieldType × Nat × Nat × Nat × Nat × Nat × Nat × Nat) := [(⟨"PointMakerModel", "goesThrough", "(I)V"⟩, prog_12_method_33_code, 7, none, 3, 70, 10, 1265, 1264, 61, 100),
  (⟨"PointMakerModel", "makes", "()V"⟩, prog_12_method_34_code, 2, none, 4, 96, 10, 1230, 1229, 53, 100),
  (⟨"PointMakerModel", "isPoint", "(I)Z"⟩, prog_12_method_35_code, 2, (some .boolean), 5, 117, 10, 1354, 1353, 76, 100),
  (⟨"PointMakerModel", "isBlock", "(I)Z"⟩, prog_12_method_36_code, 2, (some .boolean), 1, 25, 10, 1324, 1323, 74, 100),
  (⟨"PointMakerModel", "isStep", "(I)Z"⟩, prog_12_method_37_code, 2, (some .boolean), 1, 25, 10, 1332, 1331, 75, 100),
  (⟨"PointMakerModel", "isVariable", "(I)Z"⟩, prog_12_method_38_code, 1, (some .boolean), 1, 25, 10, 1339, 1338, 0, 100),
  (⟨"PointMakerModel", "givenBits", "()I"⟩, prog_12_method_39_code, 3, (some .int), 0, 0, 10, 1284, 1283, 65, 100),
  (⟨"PointMakerModel", "allOf", "(Z)I"⟩, prog_12_method_40_code, 4, (some .int), 5, 106, 10, 1288, 1287, 66, 100),
  (⟨"PointMakerModel", "rule", "(I)I"⟩, prog_12_method_41_code, 2, (some .int), 6, 129, 10, 1226, 1224, 1225, 100),
  (⟨"PointMakerModel", "block", "(II)I"⟩, prog_12_method_42_code, 3, (some .int), 5, 117, 10, 1320, 1318, 1319, 100),
  (⟨"PointMakerModel", "step", "(II)I"⟩, prog_12_method_43_code, 3, (some .int), 2, 46, 10, 1328, 1326, 1327, 100),
  (⟨"PointMakerModel", "give", "(II)I"⟩, prog_12_method_44_code, 4, (some .int), 2, 45, 10, 1336, 1334, 1335, 100),
  (⟨"PointMakerModel", "wise", "(I)I"⟩, prog_12_method_45_code, 3, (some .int), 1, 25, 10, 1346, 1344, 1345, 100),
  (⟨"PointMakerModel", "leadsTo", "(I)I"⟩, prog_12_method_46_code, 3, (some .int), 0, 0, 10, 1358, 1357, 77, 100),
  (⟨"PointMakerModel", "point", "(II)I"⟩, prog_12_method_47_code, 3, (some .int), 6, 138, 10, 1350, 1348, 1349, 100),
  (⟨"PointMakerModel", "held", "(II)I"⟩, prog_12_method_48_code, 3, (some .int), 6, 138, 10, 1362, 1360, 1361, 100),
  (⟨"PointMakerModel", "left", "(III)I"⟩, prog_12_method_49_code, 4, (some .int), 6, 138, 10, 1366, 1364, 1365, 100),
  (⟨"PointMakerModel", "shows", "(I)V"⟩, prog_12_method_50_code, 2, none, 0, 0, 10, 1296, 1295, 68, 100),
  (⟨"PointMakerModel", "showsNumber", "(I)V"⟩, prog_12_method_51_code, 2, none, 1, 21, 10, 1300, 1299, 69, 100),
  (⟨"PointMakerModel", "showsWord", "(I)V"⟩, prog_12_method_52_code, 3, none, 1, 21, 10, 1308, 1307, 71, 100),
  (⟨"PointMakerModel", "showsOperand", "(I)V"⟩, prog_12_method_53_code, 2, none, 2, 42, 10, 1312, 1311, 72, 100),
  (⟨"PointMakerModel", "showsStep", "(I)V"⟩, prog_12_method_54_code, 2, none, 3, 63, 10, 1304, 1303, 70, 100),
  (⟨"PointMakerModel", "showsPoint", "(I)V"⟩, prog_12_method_55_code, 2, none, 2, 42, 10, 1316, 1315, 73, 100),
  (⟨"PointMakerModel", "shownOf", "(I)I"⟩, prog_12_method_56_code, 3, (some .int), 4, 84, 10, 1292, 1291, 67, 100),
  (⟨"PointMakerModel", "shown", "(II)I"⟩, prog_12_method_57_code, 3, (some .int), 6, 138, 10, 1370, 1368, 1369, 100),
  (⟨"PointMakerModel", "where", "(IIII)I"⟩, prog_12_method_58_code, 10, (some .int), 6, 138, 10, 1374, 1372, 1373, 100),
  (⟨"PointMakerModel", "becomesBegin", "(II)I"⟩, prog_12_method_59_code, 4, (some .int), 2, 45, 10, 1382, 1381, 78, 100),
  (⟨"PointMakerModel", "begin", "(II)I"⟩, prog_12_method_60_code, 3, (some .int), 3, 68, 10, 1378, 1376, 1377, 100),
  (⟨"PointMakerModel", "valueIn", "(I)I"⟩, prog_12_method_61_code, 2, (some .int), 0, 0, 10, 1406, 1405, 83, 100),
  (⟨"PointMakerModel", "does", "(IIIII)V"⟩, prog_12_method_62_code, 6, none, 1, 22, 10, 1402, 1401, 82, 100),
  (⟨"PointMakerModel", "startsRun", "()V"⟩, prog_12_method_63_code, 2, none, 0, 0, 10, 1398, 1397, 81, 100),
  (⟨"PointMakerModel", "runsProgram", "()V"⟩, prog_12_method_64_code, 4, none, 2, 47, 10, 1394, 1393, 80, 100),
  (⟨"PointMakerModel", "runsLeft", "()V"⟩, prog_12_method_65_code, 4, none, 2, 47, 10, 1418, 1417, 85, 100),
  (⟨"PointMakerModel", "isLatest", "()I"⟩, prog_12_method_66_code, 2, (some .int), 0, 0, 10, 1410, 1409, 84, 100),
  (⟨"PointMakerModel", "drawsBegins", "()V"⟩, prog_12_method_67_code, 2, none, 0, 0, 10, 1390, 1389, 79, 100),
  (⟨"PointMakerModel", "run", "()I"⟩, prog_12_method_68_code, 1, (some .int), 3, 70, 10, 1386, 1384, 1385, 100),
  (⟨"PointMakerModel", "runLeft", "()I"⟩, prog_12_method_69_code, 1, (some .int), 5, 117, 10, 1414, 1412, 1413, 100),
  (⟨"PointMakerModel", "told", "(I)I"⟩, prog_12_method_70_code, 2, (some .int), 1, 25, 10, 1422, 1420, 1421, 100),
  (⟨"PointMakerModel", "isAlikeEnd", "()Z"⟩, prog_12_method_71_code, 3, (some .boolean), 0, 0, 10, 1435, 1434, 86, 100),
  (⟨"PointMakerModel", "agree", "(III)I"⟩, prog_12_method_72_code, 10, (some .int), 5, 117, 10, 1429, 1427, 1428, 100)]
def zx_mts_3 : List (MethodName × ByteArray × Nat × Option FieldType × Nat × Nat × Nat × Nat × Nat × Nat × Nat) := [(⟨"PointMakerModel", "puts", "(ZII)I"⟩, prog_12_method_73_code, 5, (some .int), 0, 0, 10, 1448, 1447, 87, 100),
  (⟨"PointMakerModel", "isOperand", "(I)Z"⟩, prog_12_method_74_code, 1, (some .boolean), 1, 25, 10, 1442, 1441, 0, 100),
  (⟨"PointMakerModel", "alter", "(III)I"⟩, prog_12_method_75_code, 5, (some .int), 2, 46, 10, 1439, 1437, 1438, 100),
  (⟨"PointMakerModel", "lead", "(III)I"⟩, prog_12_method_76_code, 4, (some .int), 2, 46, 10, 1452, 1450, 1451, 100),
  (⟨"PointMakerModel", "keep", "(I)I"⟩, prog_12_method_77_code, 3, (some .int), 1, 25, 10, 1456, 1454, 1455, 100),
  (⟨"PointMakerModel", "back", "(I)I"⟩, prog_12_method_78_code, 2, (some .int), 1, 25, 10, 1460, 1458, 1459, 100),
  (⟨"PointMakerModel", "sheet", "(III)I"⟩, prog_12_method_79_code, 5, (some .int), 1, 25, 10, 1464, 1462, 1463, 100),
  (⟨"PointMakerModel", "lay", "(III)I"⟩, prog_12_method_80_code, 4, (some .int), 1, 25, 10, 1468, 1466, 1467, 100),
  (⟨"PointMakerModel", "setsAside", "(Z)V"⟩, prog_12_method_81_code, 3, none, 0, 0, 10, 1477, 1476, 88, 100),
  (⟨"PointMakerModel", "read", "(IIII)I"⟩, prog_12_method_82_code, 11, (some .int), 3, 68, 10, 1472, 1470, 1471, 100),
  (⟨"PointMakerModel", "torn", "()I"⟩, prog_12_method_83_code, 1, (some .int), 0, 0, 10, 1481, 1479, 1480, 100),
  (⟨"PointMakerModel", "numberOf", "(I)I"⟩, prog_12_method_84_code, 1, (some .int), 1, 25, 10, 1488, 1487, 0, 100),
  (⟨"PointMakerModel", "count", "(I)I"⟩, prog_12_method_85_code, 5, (some .int), 2, 45, 10, 1485, 1483, 1484, 100),
  (⟨"PointMaker$Division", "find", "(LPointMaker$Program;)V"⟩, prog_2_method_2_code, 4, none, 4, 91, 0, 646, 644, 645, 96),
  (⟨"PointMaker$Division", "spreadsUnknown", "(LPointMaker$Web;)Z"⟩, prog_2_method_3_code, 4, (some .boolean), 2, 43, 0, 657, 656, 18, 96),
  (⟨"PointMaker$Division", "spreadsAhead", "(LPointMaker$Web;)Z"⟩, prog_2_method_4_code, 5, (some .boolean), 3, 67, 0, 671, 670, 19, 96),
  (⟨"PointMaker$Division", "aheadOfSteps", "(LPointMaker$Web;II)I"⟩, prog_2_method_5_code, 5, (some .int), 2, 43, 0, 679, 678, 0, 96),
  (⟨"PointMaker$Division", "aheadAt", "(I)I"⟩, prog_2_method_6_code, 2, (some .int), 0, 0, 0, 676, 674, 675, 96),
  (⟨"PointMaker$Division", "operandBits", "(LPointMaker$Web;I)I"⟩, prog_2_method_7_code, 2, (some .int), 1, 22, 0, 664, 663, 0, 96),
  (⟨"PointMaker$Letters", "at", "(I)I"⟩, prog_3_method_2_code, 2, (some .int), 0, 0, 1, 839, 837, 838, 97),
  (⟨"PointMaker$Letters", "add", "(I)V"⟩, prog_3_method_3_code, 2, none, 0, 0, 1, 748, 746, 747, 97),
  (⟨"PointMaker$Letters", "addWord", "(Ljava/lang/String;)V"⟩, prog_3_method_4_code, 3, none, 4, 111, 1, 762, 760, 761, 97),
  (⟨"PointMaker$Letters", "addNumber", "(I)V"⟩, prog_3_method_5_code, 2, none, 1, 21, 1, 752, 750, 751, 97),
  (⟨"PointMaker$Letters", "addOperand", "(I)V"⟩, prog_3_method_6_code, 3, none, 2, 42, 1, 768, 766, 767, 97),
  (⟨"PointMaker$Letters", "addPlace", "(I)V"⟩, prog_3_method_7_code, 2, none, 2, 42, 1, 744, 742, 743, 97),
  (⟨"PointMaker$Letters", "writePoint", "(LPointMaker$Web;I)V"⟩, prog_3_method_8_code, 4, none, 6, 156, 1, 739, 737, 738, 97),
  (⟨"PointMaker$Letters", "writeStep", "(LPointMaker$Web;I)V"⟩, prog_3_method_9_code, 3, none, 6, 155, 1, 847, 845, 846, 97),
  (⟨"PointMaker$Letters", "addStep", "(LPointMaker$Web;I)V"⟩, prog_3_method_10_code, 3, none, 5, 133, 1, 756, 755, 28, 97),
  (⟨"PointMaker$Letters", "addEnding", "(LPointMaker$Web;I)V"⟩, prog_3_method_11_code, 4, none, 5, 133, 1, 775, 774, 29, 97),
  (⟨"PointMaker$Letters", "find", "(LPointMaker$Letters;I)I"⟩, prog_3_method_12_code, 4, (some .int), 2, 44, 1, 851, 849, 850, 97),
  (⟨"PointMaker$Letters", "hasAt", "(LPointMaker$Letters;I)Z"⟩, prog_3_method_13_code, 4, (some .boolean), 1, 21, 1, 855, 854, 34, 97),
  (⟨"PointMaker$Points", "find", "(LPointMaker$Program;)V"⟩, prog_4_method_2_code, 3, none, 6, 145, 2, 642, 640, 641, 95),
  (⟨"PointMaker$Points", "meet", "(LPointMaker$Program;II)I"⟩, prog_4_method_3_code, 6, (some .int), 3, 66, 2, 687, 686, 20, 95),
  (⟨"PointMaker$Points", "seek", "(II)V"⟩, prog_4_method_4_code, 5, none, 1, 21, 2, 691, 690, 21, 95),
  (⟨"PointMaker$Points", "findAlike", "(I)I"⟩, prog_4_method_5_code, 5, (some .int), 0, 0, 2, 700, 699, 22, 95),
  (⟨"PointMaker$Points", "specialise", "(LPointMaker$Program;I)V"⟩, prog_4_method_6_code, 6, none, 5, 120, 2, 705, 704, 23, 95),
  (⟨"PointMaker$Points", "doOrLeave", "(LPointMaker$Web;II)V"⟩, prog_4_method_7_code, 9, none, 2, 48, 2, 711, 710, 24, 95),
  (⟨"PointMaker$Points", "asKnown", "(I)I"⟩, prog_4_method_8_code, 3, (some .int), 1, 21, 2, 716, 715, 25, 95),
  (⟨"PointMaker$Points", "leadOn", "(LPointMaker$Program;II)V"⟩, prog_4_method_9_code, 10, none, 4, 91, 2, 729, 728, 26, 95),
  (⟨"PointMaker$Program", "become", "(LPointMaker$Web;)V"⟩, prog_5_method_2_code, 2, none, 3, 82, 3, 613, 611, 612, 94)]
def zx_mts_4 : List (MethodName × ByteArray × Nat × Option FieldType × Nat × Nat × Nat × Nat × Nat × Nat × Nat) := [(⟨"PointMaker$Program", "forgetGiven", "()V"⟩, prog_5_method_3_code, 2, none, 0, 0, 3, 240, 239, 0, 94),
  (⟨"PointMaker$Program", "givenBits", "()I"⟩, prog_5_method_4_code, 3, (some .int), 0, 0, 3, 653, 651, 652, 94),
  (⟨"PointMaker$Program", "copyFrom", "(LPointMaker$Program;)V"⟩, prog_5_method_5_code, 2, none, 3, 82, 3, 931, 929, 930, 94),
  (⟨"PointMaker$Reader", "takesTape", "()Z"⟩, prog_6_method_2_code, 2, (some .boolean), 8, 200, 4, 449, 447, 448, 91),
  (⟨"PointMaker$Reader", "refuse", "(II)Z"⟩, prog_6_method_3_code, 3, (some .boolean), 0, 0, 4, 468, 467, 2, 91),
  (⟨"PointMaker$Reader", "advance", "()Z"⟩, prog_6_method_4_code, 3, (some .boolean), 1, 22, 4, 457, 456, 1, 91),
  (⟨"PointMaker$Reader", "sortOf", "(I)I"⟩, prog_6_method_5_code, 1, (some .int), 0, 0, 4, 464, 463, 0, 91),
  (⟨"PointMaker$Reader", "isWord", "(Ljava/lang/String;)Z"⟩, prog_6_method_6_code, 3, (some .boolean), 4, 111, 4, 477, 476, 4, 91),
  (⟨"PointMaker$Reader", "variableHere", "()I"⟩, prog_6_method_7_code, 2, (some .int), 1, 21, 4, 559, 558, 8, 91),
  (⟨"PointMaker$Reader", "operandHere", "()I"⟩, prog_6_method_8_code, 2, (some .int), 2, 42, 4, 566, 565, 9, 91),
  (⟨"PointMaker$Reader", "opHere", "()I"⟩, prog_6_method_9_code, 2, (some .int), 5, 133, 4, 574, 573, 10, 91),
  (⟨"PointMaker$Reader", "take", "(I)I"⟩, prog_6_method_10_code, 2, (some .int), 2, 44, 4, 549, 548, 6, 91),
  (⟨"PointMaker$Reader", "takeBlockNumber", "()I"⟩, prog_6_method_11_code, 1, (some .int), 3, 65, 4, 599, 598, 14, 91),
  (⟨"PointMaker$Reader", "takesSemicolon", "()Z"⟩, prog_6_method_12_code, 1, (some .boolean), 3, 65, 4, 545, 544, 5, 91),
  (⟨"PointMaker$Reader", "takesBlock", "()Z"⟩, prog_6_method_13_code, 3, (some .boolean), 7, 178, 4, 472, 471, 3, 91),
  (⟨"PointMaker$Reader", "takesSet", "()Z"⟩, prog_6_method_14_code, 5, (some .boolean), 6, 154, 4, 555, 554, 7, 91),
  (⟨"PointMaker$Reader", "takesSay", "()Z"⟩, prog_6_method_15_code, 2, (some .boolean), 3, 65, 4, 585, 584, 11, 91),
  (⟨"PointMaker$Reader", "takesEnd", "()Z"⟩, prog_6_method_16_code, 1, (some .boolean), 5, 133, 4, 589, 588, 12, 91),
  (⟨"PointMaker$Reader", "takesGoto", "()Z"⟩, prog_6_method_17_code, 2, (some .boolean), 4, 85, 4, 595, 594, 13, 91),
  (⟨"PointMaker$Reader", "takesIf", "()Z"⟩, prog_6_method_18_code, 4, (some .boolean), 4, 85, 4, 605, 604, 15, 91),
  (⟨"PointMaker$Reader", "leadsToBlocks", "()Z"⟩, prog_6_method_19_code, 2, (some .boolean), 1, 22, 4, 609, 608, 16, 91),
  (⟨"PointMaker$Run", "go", "(LPointMaker$Web;[I[II)V"⟩, prog_7_method_2_code, 7, none, 3, 70, 5, 872, 870, 871, 98),
  (⟨"PointMaker$Run", "doSteps", "(LPointMaker$Web;I)V"⟩, prog_7_method_3_code, 8, none, 2, 43, 5, 877, 876, 35, 98),
  (⟨"PointMaker$Run", "onward", "(LPointMaker$Web;I)I"⟩, prog_7_method_4_code, 5, (some .int), 2, 43, 5, 889, 888, 36, 98),
  (⟨"PointMaker$Sheet", "renew", "(II)V"⟩, prog_8_method_2_code, 4, none, 1, 21, 6, 950, 948, 949, 99),
  (⟨"PointMaker$Sheet", "faultAt", "(I)I"⟩, prog_8_method_3_code, 2, (some .int), 0, 0, 6, 960, 958, 959, 99),
  (⟨"PointMaker$Sheet", "faultOfPair", "(II)I"⟩, prog_8_method_4_code, 4, (some .int), 1, 21, 6, 973, 971, 972, 99),
  (⟨"PointMaker$Sheet", "cellAt", "(I)I"⟩, prog_8_method_5_code, 2, (some .int), 1, 21, 6, 977, 975, 976, 99),
  (⟨"PointMaker$Sheet", "put", "(II)V"⟩, prog_8_method_6_code, 3, none, 1, 21, 6, 964, 962, 963, 99),
  (⟨"PointMaker$Tape", "append", "(I)Z"⟩, prog_9_method_2_code, 2, (some .boolean), 0, 0, 7, 437, 435, 436, 92),
  (⟨"PointMaker$Tape", "at", "(I)I"⟩, prog_9_method_3_code, 2, (some .int), 0, 0, 7, 461, 459, 460, 92),
  (⟨"PointMaker$Web", "clear", "()V"⟩, prog_10_method_2_code, 1, none, 0, 0, 8, 453, 451, 452, 93),
  (⟨"PointMaker$Web", "open", "()Z"⟩, prog_10_method_3_code, 1, (some .boolean), 2, 46, 8, 529, 527, 528, 93),
  (⟨"PointMaker$Web", "startSteps", "(I)V"⟩, prog_10_method_4_code, 2, none, 1, 21, 8, 541, 539, 540, 93),
  (⟨"PointMaker$Web", "append", "(IIIIII)Z"⟩, prog_10_method_5_code, 8, (some .boolean), 1, 21, 8, 570, 568, 569, 93),
  (⟨"PointMaker$Web", "close", "(IIIII)V"⟩, prog_10_method_6_code, 6, none, 1, 21, 8, 533, 531, 532, 93),
  (⟨"PointMaker$Web", "isPlace", "(I)Z"⟩, prog_10_method_7_code, 2, (some .boolean), 0, 0, 8, 537, 535, 536, 93),
  (⟨"PointMaker$Web", "placePart", "(II)I"⟩, prog_10_method_8_code, 3, (some .int), 1, 21, 8, 779, 777, 778, 93),
  (⟨"PointMaker$Web", "setPlacePart", "(III)V"⟩, prog_10_method_9_code, 4, none, 1, 21, 8, 923, 921, 922, 93),
  (⟨"PointMaker$Web", "stepPart", "(II)I"⟩, prog_10_method_10_code, 3, (some .int), 0, 0, 8, 661, 659, 660, 93)]
def zx_mts_5 : List (MethodName × ByteArray × Nat × Option FieldType × Nat × Nat × Nat × Nat × Nat × Nat × Nat) := [(⟨"PointMaker$Web", "setStepPart", "(III)V"⟩, prog_10_method_11_code, 4, none, 0, 0, 8, 915, 913, 914, 93),
  (⟨"PointMaker$Web", "copyFrom", "(LPointMaker$Web;)V"⟩, prog_10_method_12_code, 2, none, 2, 61, 8, 617, 615, 616, 93),
  (⟨"java/lang/String", "length", "()I"⟩, prog_14_method_54_code, 1, (some .int), 1, 21, 99, 481, 479, 480, 101),
  (⟨"java/lang/String", "charAt", "(I)C"⟩, prog_14_method_56_code, 2, (some .char), 3, 90, 99, 491, 489, 490, 101)]
def zx_mts : List (MethodName × ByteArray × Nat × Option FieldType × Nat × Nat × Nat × Nat × Nat × Nat × Nat) := zx_mts_0 ++ zx_mts_1 ++ zx_mts_2 ++ zx_mts_3 ++ zx_mts_4 ++ zx_mts_5
end
section
def zx_sh (r : Nat) : zS := zx_shT.getD r (9, 0, 0, [])
def zx_tg (r : Nat) : Nat := (zx_sh r).1
def zx_ci (r : Nat) : Nat := (zx_sh r).2.1
def zx_n (r : Nat) : Nat := (zx_sh r).2.2.1
def zx_ln (r : Nat) : Int := ((zx_sh r).2.2.1 : Int)
def zx_rf (r : Nat) : List (Option Nat) := (zx_sh r).2.2.2
def zx_cd (j : Nat) : List (Bool × zE) := zx_cds.getD j []
abbrev zT : Type := MethodName × ByteArray × Nat × Option FieldType × Nat × Nat × Nat × Nat × Nat × Nat × Nat
def zx_mt (j : Nat) : zT := zx_mts.getD j (⟨"", "", ""⟩, .empty, 0, none, 0, 0, 0, 0, 0, 0, 0)
def zx_y (j : Nat) : MethodName := (zx_mt j).1
def zx_by (j : Nat) : ByteArray := (zx_mt j).2.1
def zx_ml (j : Nat) : Nat := (zx_mt j).2.2.1
def zx_rt (j : Nat) : Option FieldType := (zx_mt j).2.2.2.1
def zx_rm (j : Nat) : Room := { frames := (zx_mt j).2.2.2.2.1, cells := 0, slots := 0, locals := (zx_mt j).2.2.2.2.2.1 }
def zx_pc (j i : Nat) : Nat := match zx_at (zx_cd j) i with
  | some e => e.2.1
  | none => 0
/-- an object of class ci with a field b -/
def zx_ob (r a b : Nat) : Prop := zx_tg r = 0 ∧ zx_ci r = a ∧ b < zx_n r
/-- the same, by program -/
def zx_obB (r a b : Nat) : Bool := Nat.beq (zx_tg r) 0 && Nat.beq (zx_ci r) a && Nat.ble (b + 1) (zx_n r)
def zx_noR (o : Option Nat) : Bool := match o with
  | none => true
  | some _ => false
def zx_isA (r : Nat) : Bool := Nat.beq (zx_tg r) 1 || Nat.beq (zx_tg r) 2 || Nat.beq (zx_tg r) 3
def zx_isR (r : Nat) : Bool := Nat.beq (zx_tg r) 4 || Nat.beq (zx_tg r) 5
/-- a row of tag t, and a place in it -/
def zx_ix (r t : Nat) (k : Int) : Prop := zx_tg r = t ∧ 0 ≤ k ∧ k < zx_ln r
def zx_arr (r : Nat) : Prop := zx_tg r = 1 ∨ zx_tg r = 2 ∨ zx_tg r = 3
/-- what an instruction asks, and where it leads; R: a call's answer -/
def zx_act (R : Nat → List zV → zM → zQ → Prop) (e : zE) (i : Nat) (L : zL) (S : List zV) (h : zM) (Q : zQ) (K : Nat → zL → List zV → zM → Prop) : Prop :=
  match e with
  | (_, ins, _, a, b, d, ts) =>
  match ins with
  | .iload _ => zx_li (zx_lk L a) (fun x => K (i + 1) L (.inl x :: S) h)
  | .iload_n _ => zx_li (zx_lk L a) (fun x => K (i + 1) L (.inl x :: S) h)
  | .lload _ => zx_ll (zx_lk L a) (fun x => K (i + 1) L (.inr (.inl x) :: S) h)
  | .lload_n _ => zx_ll (zx_lk L a) (fun x => K (i + 1) L (.inr (.inl x) :: S) h)
  | .aload _ => zx_lr (zx_lk L a) (fun x => K (i + 1) L (.inr (.inr x) :: S) h)
  | .aload_n _ => zx_lr (zx_lk L a) (fun x => K (i + 1) L (.inr (.inr x) :: S) h)
  | .iconst _ => K (i + 1) L (.inl d :: S) h
  | .bipush _ => K (i + 1) L (.inl d :: S) h
  | .sipush _ => K (i + 1) L (.inl d :: S) h
  | .lconst _ => K (i + 1) L (.inr (.inl d) :: S) h
  | .ldc2_w _ => K (i + 1) L (.inr (.inl d) :: S) h
  | .ldc _ => match b with
    | 0 => K (i + 1) L (.inl d :: S) h
    | _ + 1 => K (i + 1) L (.inr (.inr a) :: S) h
  | .ldc_w _ => match b with
    | 0 => K (i + 1) L (.inl d :: S) h
    | _ + 1 => K (i + 1) L (.inr (.inr a) :: S) h
  | .istore _ => zx_p1 S (fun x S => K (i + 1) (zx_se L a (.inl x)) S h)
  | .istore_n _ => zx_p1 S (fun x S => K (i + 1) (zx_se L a (.inl x)) S h)
  | .astore _ => zx_pr S (fun x S => K (i + 1) (zx_se L a (.inr (.inr x))) S h)
  | .astore_n _ => zx_pr S (fun x S => K (i + 1) (zx_se L a (.inr (.inr x))) S h)
  | .lstore _ => match S with
    | .inr (.inl x) :: S => K (i + 1) (zx_cl (zx_se L a (.inr (.inl x))) (a + 1)) S h
    | _ => False
  | .iinc _ _ => zx_li (zx_lk L a) (fun x => (-2147483648 ≤ x + d ∧ x + d < 2147483648) ∧ K (i + 1) (zx_se L a (.inl (x + d))) S h)
  | .iadd => zx_p2 S (fun x y S => (-2147483648 ≤ x + y ∧ x + y < 2147483648) ∧ K (i + 1) L (.inl (x + y) :: S) h)
  | .fadd => zx_p2 S (fun x y S => K (i + 1) L (.inl (zx_wr (x + y)) :: S) h)
  | .isub => zx_p2 S (fun x y S => (-2147483648 ≤ x - y ∧ x - y < 2147483648) ∧ K (i + 1) L (.inl (x - y) :: S) h)
  | .fsub => zx_p2 S (fun x y S => K (i + 1) L (.inl (zx_wr (x - y)) :: S) h)
  | .imul => zx_p2 S (fun x y S => (-2147483648 ≤ x * y ∧ x * y < 2147483648) ∧ K (i + 1) L (.inl (x * y) :: S) h)
  | .fmul => zx_p2 S (fun x y S => K (i + 1) L (.inl (zx_wr (x * y)) :: S) h)
  | .iand => zx_p2 S (fun x y S => K (i + 1) L (.inl (zx_and x y) :: S) h)
  | .ior => zx_p2 S (fun x y S => K (i + 1) L (.inl (zx_or x y) :: S) h)
  | .ixor => zx_p2 S (fun x y S => K (i + 1) L (.inl (zx_xor x y) :: S) h)
  | .ishl => zx_p2 S (fun x y S => K (i + 1) L (.inl (zx_shl x y) :: S) h)
  | .ishr => zx_p2 S (fun x y S => K (i + 1) L (.inl (zx_shr x y) :: S) h)
  | .iushr => zx_p2 S (fun x y S => K (i + 1) L (.inl (zx_ushr x y) :: S) h)
  | .idiv => zx_p2 S (fun x y S => (0 ≤ x ∧ 0 < y) ∧ K (i + 1) L (.inl (x / y) :: S) h)
  | .irem => zx_p2 S (fun x y S => (0 ≤ x ∧ 0 < y) ∧ K (i + 1) L (.inl (x % y) :: S) h)
  | .i2b => zx_p1 S (fun x S => (-128 ≤ x ∧ x < 128) ∧ K (i + 1) L (.inl x :: S) h)
  | .d2i => zx_p1 S (fun x S => K (i + 1) L (.inl (zx_b x) :: S) h)
  | .i2s => zx_p1 S (fun x S => K (i + 1) L (.inl (zx_s x) :: S) h)
  | .i2l => zx_p1 S (fun x S => K (i + 1) L (.inr (.inl x) :: S) h)
  | .l2i => match S with
    | .inr (.inl x) :: S => K (i + 1) L (.inl (zx_wr x) :: S) h
    | _ => False
  | .ladd => match S with
    | .inr (.inl y) :: .inr (.inl x) :: S => K (i + 1) L (.inr (.inl (zx_wl (x + y))) :: S) h
    | _ => False
  | .lcmp => match S with
    | .inr (.inl y) :: .inr (.inl x) :: S => K (i + 1) L (.inl (zx_lcmp x y) :: S) h
    | _ => False
  | .dup => match S with
    | .inl x :: S => K (i + 1) L (.inl x :: .inl x :: S) h
    | .inr (.inr x) :: S => K (i + 1) L (.inr (.inr x) :: .inr (.inr x) :: S) h
    | _ => False
  | .dup2 => zx_pi S (fun r x S => K (i + 1) L (.inl x :: .inr (.inr r) :: .inl x :: .inr (.inr r) :: S) h)
  | .pop => zx_p1 S (fun _ S => K (i + 1) L S h)
  | .goto _ => K a L S h
  | .ifCond c _ => zx_p1 S (fun x S => zx_cnd c x 0 (K a L S h) (K (i + 1) L S h))
  | .if_icmp c _ => zx_p2 S (fun x y S => zx_cnd c x y (K a L S h) (K (i + 1) L S h))
  | .tableswitch _ _ _ _ => zx_p1 S (fun x S => zx_sw x (fun t => K t L S h) ts a)
  | .lookupswitch _ _ => zx_p1 S (fun x S => zx_sw x (fun t => K t L S h) ts a)
  | .getfield _ => zx_pr S (fun r S => match zx_obB r a b with
    | true => K (i + 1) L (zx_fld (zx_nt (zx_rf r) b) (h r d) :: S) h
    | false => False)
  | .putfield _ => match S with
    | .inl x :: .inr (.inr r) :: S => (match zx_obB r a b && zx_noR (zx_nt (zx_rf r) b) with
      | true => K (i + 1) L S (zx_st h r d x)
      | false => False)
    | _ => False
  | .putstatic _ => match S with
    | .inl x :: .inr (.inr r) :: S => (match zx_obB r a b && zx_noR (zx_nt (zx_rf r) b) with
      | true => (x = 0 ∨ x = 1) ∧ K (i + 1) L S (zx_st h r d x)
      | false => False)
    | _ => False
  | .arraylength => zx_pr S (fun r S => match zx_isA r with
    | true => K (i + 1) L (.inl (zx_ln r) :: S) h
    | false => False)
  | .iaload => zx_pi S (fun r x S => match Nat.beq (zx_tg r) 1 with
    | true => (0 ≤ x ∧ x < zx_ln r) ∧ K (i + 1) L (.inl (h r x) :: S) h
    | false => False)
  | .baload => zx_pi S (fun r x S => match Nat.beq (zx_tg r) 2 with
    | true => (0 ≤ x ∧ x < zx_ln r) ∧ K (i + 1) L (.inl (h r x) :: S) h
    | false => False)
  | .saload => zx_pi S (fun r x S => match Nat.beq (zx_tg r) 3 with
    | true => (0 ≤ x ∧ x < zx_ln r) ∧ K (i + 1) L (.inl (h r x) :: S) h
    | false => False)
  | .aaload => zx_pi S (fun r x S => match zx_isR r with
    | true => (0 ≤ x ∧ x < zx_ln r) ∧ K (i + 1) L (.inr (.inr ((zx_nt (zx_rf r) x.toNat).getD 0)) :: S) h
    | false => False)
  | .iastore => zx_pii S (fun r x v S => match Nat.beq (zx_tg r) 1 with
    | true => (0 ≤ x ∧ x < zx_ln r) ∧ K (i + 1) L S (zx_st h r x v)
    | false => False)
  | .bastore => zx_pii S (fun r x v S => match Nat.beq (zx_tg r) 2 with
    | true => (0 ≤ x ∧ x < zx_ln r) ∧ (-128 ≤ v ∧ v < 128) ∧ K (i + 1) L S (zx_st h r x v)
    | false => False)
  | .sastore => zx_pii S (fun r x v S => match Nat.beq (zx_tg r) 3 with
    | true => (0 ≤ x ∧ x < zx_ln r) ∧ (v = 0 ∨ v = 1) ∧ K (i + 1) L S (zx_st h r x v)
    | false => False)
  | .monitorenter => zx_p2 S (fun x y S => zx_low S (K (i + 1) L (.inl (if x < y then y else x) :: S) h))
  | .monitorexit => zx_p2 S (fun x y S => zx_low S (K (i + 1) L (.inl (if y < x then y else x) :: S) h))
  | .swap => match S with
    | .inl n :: .inl dp :: .inr (.inr c) :: .inl sp :: .inr (.inr r) :: S => (zx_tg r = 1 ∧ zx_tg c = 1 ∧ 0 ≤ sp ∧ 0 ≤ dp ∧ 0 ≤ n ∧ sp + n ≤ zx_ln r ∧ dp + n ≤ zx_ln c) ∧ zx_low S (K (i + 1) L S (zx_cp h r sp c dp n))
    | _ => False
  | .invokevirtual _ => zx_tk b S [] (fun As S => zx_low S (R a As h (fun rv h' => K (i + 1) L (zx_psh rv S) h')))
  | .invokestatic _ => zx_tk b S [] (fun As S => zx_low S (R a As h (fun rv h' => K (i + 1) L (zx_psh rv S) h')))
  | .ireturn => match S with
    | [.inl x] => Q (some (.inl x)) h
    | _ => False
  | .freturn => match S with
    | [.inl x] => (x = 0 ∨ x = 1) ∧ Q (some (.inl x)) h
    | _ => False
  | .areturn => match S with
    | [.inr (.inr x)] => Q (some (.inr (.inr x))) h
    | _ => False
  | .return_ => match S with
    | [] => Q none h
    | _ => False
  | _ => False
/-- a walk of at most n instructions, up to the next loop's head, or to a cut (X) -/
def zx_vc (R : Nat → List zV → zM → zQ → Prop) (X : Nat → Bool) (P : Nat → zL → List zV → zM → Prop) (T : List (Bool × zE)) (Q : zQ) : Nat → Nat → zL → List zV → zM → Prop
  | 0, i, L, S, h => P i L S h
  | n + 1, i, L, S, h => match X i with
    | true => P i L S h
    | false => match zx_at T i with
      | some (true, _) => P i L S h
      | some (false, e) => zx_act R e i L S h Q (zx_vc R X P T Q n)
      | none => False
def zx_go (R : Nat → List zV → zM → zQ → Prop) (X : Nat → Bool) (P : Nat → zL → List zV → zM → Prop) (T : List (Bool × zE)) (Q : zQ) (n i : Nat) (L : zL) (S : List zV) (h : zM) : Prop := match zx_at T i with
  | some (_, e) => zx_act R e i L S h Q (zx_vc R X P T Q n)
  | none => False
end
section
/-! NUMBERS between the machine and the shadow -/
def zc_i (x : Int) : Prop := -2147483648 ≤ x ∧ x < 2147483648
def zc_l (x : Int) : Prop := -9223372036854775808 ≤ x ∧ x < 9223372036854775808
theorem zc_oi (x : Int32) : Int32.ofInt x.toInt = x := Int32.ofInt_toInt x
theorem zc_ol (x : Int64) : Int64.ofInt x.toInt = x := Int64.ofInt_toInt x
theorem zc_io {x : Int} (h : zc_i x) : (Int32.ofInt x).toInt = x := by
  obtain ⟨h1, h2⟩ := h
  exact Int32.toInt_ofInt_of_le (by omega) (by omega)
theorem zc_lo {x : Int} (h : zc_l x) : (Int64.ofInt x).toInt = x := by
  obtain ⟨h1, h2⟩ := h
  exact Int64.toInt_ofInt_of_le (by omega) (by omega)
theorem zc_ri (x : Int32) : zc_i x.toInt := by
  have h1 := Int32.le_toInt x
  have h2 := Int32.toInt_lt x
  unfold zc_i
  omega
theorem zc_rl (x : Int64) : zc_l x.toInt := by
  have h1 := Int64.le_toInt x
  have h2 := Int64.toInt_lt x
  unfold zc_l
  omega
theorem zc_wr (x : Int) : Int32.ofInt (zx_wr x) = Int32.ofInt x := zc_oi _
theorem zc_wl (x : Int) : Int64.ofInt (zx_wl x) = Int64.ofInt x := zc_ol _
theorem zc_eq {x y : Int} (hx : zc_i x) (hy : zc_i y) : Int32.ofInt x = Int32.ofInt y ↔ x = y :=
  ⟨fun h => by rw [← zc_io hx, ← zc_io hy, h], fun h => by rw [h]⟩
theorem zc_lt {x y : Int} (hx : zc_i x) (hy : zc_i y) : Int32.ofInt x < Int32.ofInt y ↔ x < y := by
  rw [Int32.lt_iff_toInt_lt, zc_io hx, zc_io hy]
theorem zc_le {x y : Int} (hx : zc_i x) (hy : zc_i y) : Int32.ofInt x ≤ Int32.ofInt y ↔ x ≤ y := by
  rw [Int32.le_iff_toInt_le, zc_io hx, zc_io hy]
theorem zc_cl {x : Int} (hx : zc_i x) : (Int32.ofInt x).toNatClampNeg = x.toNat := by
  show (Int32.ofInt x).toInt.toNat = _
  rw [zc_io hx]
theorem zc_in {x : Int} {n : Nat} (hx : zc_i x) (h0 : 0 ≤ x) (h1 : x < (n : Int)) : vp_in (Int32.ofInt x) n := vp_in_iff.mpr (by rw [zc_io hx]; exact ⟨h0, h1⟩)
theorem zc_0 : Int32.ofInt 0 = 0 := rfl
theorem zc_i0 : zc_i 0 := by unfold zc_i; omega
theorem zc_ofN (n : Nat) : Int32.ofInt (n : Int) = Int32.ofNat n := Int32.ofInt_eq_ofNat
theorem zc_add (x y : Int) : Int32.ofInt (zx_wr (x + y)) = Int32.ofInt x + Int32.ofInt y := by rw [zc_wr, Int32.ofInt_add]
theorem zc_sub (x y : Int) : Int32.ofInt (zx_wr (x - y)) = Int32.ofInt x - Int32.ofInt y := by rw [zc_wr, Int32.ofInt_sub]
theorem zc_mul (x y : Int) : Int32.ofInt (zx_wr (x * y)) = Int32.ofInt x * Int32.ofInt y := by rw [zc_wr, Int32.ofInt_mul]
theorem zc_addl (x y : Int) : Int64.ofInt (zx_wl (x + y)) = Int64.ofInt x + Int64.ofInt y := by rw [zc_wl, Int64.ofInt_add]
/-! THE WORLD OF THE SHADOW: each place has an address; cells as the shapes say -/
def zc_v (ad : Nat → Nat) : zV → Value
  | .inl x => .int (Int32.ofInt x)
  | .inr (.inl x) => .long (Int64.ofInt x)
  | .inr (.inr r) => .ref (ad r)
def zc_ok : zV → Prop
  | .inl x => zc_i x
  | .inr (.inl x) => zc_l x
  | .inr (.inr _) => True
def zc_okO (o : Option zV) : Prop := ∀ v, o = some v → zc_ok v
def zc_okS (S : List zV) : Prop := ∀ v ∈ S, zc_ok v
def zc_M (h : zM) : Prop := ∀ r k, zc_i (h r k)
def zc_fs (ad : Nat → Nat) (h : zM) (r : Nat) : List Value := (List.range (zx_n r)).map (fun k => zc_v ad (zx_fld (zx_nt (zx_rf r) k) (h r (k : Int))))
def zc_el (ad : Nat → Nat) (cA : Nat → ClassId) (h : zM) (r : Nat) : va_E := match zx_tg r with
  | 0 => .inr (zx_ci r, zc_fs ad h r)
  | 4 => .inl (cA 4, zx_n r, .inr (.inr (.inr (.inr (fun k => (zx_nt (zx_rf r) k).map ad)))))
  | 5 => .inl (cA 5, zx_n r, .inr (.inr (.inr (.inr (fun k => (zx_nt (zx_rf r) k).map ad)))))
  | t => .inl (cA t, zx_n r, .inl (fun k => Int32.ofInt (h r (k : Int))))
def zc_ws (ad : Nat → Nat) (cA : Nat → ClassId) (h : zM) : va_W := (List.range 108).map (fun r => (ad r, zc_el ad cA h r))
def zc_tys (cA : Nat → ClassId) : List (ClassId × FieldType) := [(cA 0, .int), (cA 1, .int), (cA 2, .byte), (cA 3, .boolean), (cA 4, .object "PointMaker$Program"), (cA 5, .object "PointMaker$Sheet")]
theorem zc_len : zx_shT.length = 108 := by decide +kernel
theorem zc_r {r : Nat} (h : zx_tg r < 9) : r < 108 := by
  rcases Nat.lt_or_ge r 108 with q | q
  · exact q
  · exfalso
    have e : zx_sh r = (9, 0, 0, []) := by
      unfold zx_sh
      rw [List.getD_eq_getElem?_getD, List.getElem?_eq_none (by rw [zc_len]; exact q)]
      rfl
    rw [zx_tg, e] at h
    exact absurd h (by decide)
theorem zc_at (ad : Nat → Nat) (cA : Nat → ClassId) (h : zM) {r : Nat} (hr : r < 108) : (zc_ws ad cA h)[r]? = some (ad r, zc_el ad cA h r) := by
  simp [zc_ws, List.getElem?_map, List.getElem?_range hr]
theorem zc_at_inv {ad : Nat → Nat} {cA : Nat → ClassId} {h : zM} {r : Nat} {q : Nat × va_E} (hq : (zc_ws ad cA h)[r]? = some q) : r < 108 := by
  have := (List.getElem?_eq_some_iff.mp hq).1
  simpa [zc_ws] using this
theorem zc_set {ad : Nat → Nat} {cA : Nat → ClassId} {h h' : zM} {r : Nat} {el : va_E} (hr : r < 108) (he : el = zc_el ad cA h' r) (ho : ∀ q, q < 108 → q ≠ r → zc_el ad cA h' q = zc_el ad cA h q) : (zc_ws ad cA h).set r (ad r, el) = zc_ws ad cA h' := by
  apply List.ext_getElem?
  intro k
  have hl : (zc_ws ad cA h).length = 108 := by simp [zc_ws]
  have hl' : (zc_ws ad cA h').length = 108 := by simp [zc_ws]
  rcases Nat.lt_or_ge k 108 with q | q
  · by_cases hk : k = r
    · subst hk
      rw [List.getElem?_set_self (by rw [hl]; exact q), zc_at ad cA h' q, he]
    · rw [List.getElem?_set_ne (fun z => hk z.symm), zc_at ad cA h q, zc_at ad cA h' q, ho k q hk]
  · rw [List.getElem?_eq_none (by simp [hl]; exact q), List.getElem?_eq_none (by rw [hl']; exact q)]
theorem zc_el0 {ad : Nat → Nat} {cA : Nat → ClassId} {h : zM} {r : Nat} (ht : zx_tg r = 0) : zc_el ad cA h r = .inr (zx_ci r, zc_fs ad h r) := by unfold zc_el; rw [ht]; rfl
theorem zc_el1 {ad : Nat → Nat} {cA : Nat → ClassId} {h : zM} {r : Nat} (ht : zx_tg r = 1) : zc_el ad cA h r = .inl (cA 1, zx_n r, .inl (fun k => Int32.ofInt (h r (k : Int)))) := by unfold zc_el; rw [ht]; rfl
theorem zc_el2 {ad : Nat → Nat} {cA : Nat → ClassId} {h : zM} {r : Nat} (ht : zx_tg r = 2) : zc_el ad cA h r = .inl (cA 2, zx_n r, .inl (fun k => Int32.ofInt (h r (k : Int)))) := by unfold zc_el; rw [ht]; rfl
theorem zc_el3 {ad : Nat → Nat} {cA : Nat → ClassId} {h : zM} {r : Nat} (ht : zx_tg r = 3) : zc_el ad cA h r = .inl (cA 3, zx_n r, .inl (fun k => Int32.ofInt (h r (k : Int)))) := by unfold zc_el; rw [ht]; rfl
theorem zc_el4 {ad : Nat → Nat} {cA : Nat → ClassId} {h : zM} {r : Nat} (ht : zx_tg r = 4) : zc_el ad cA h r = .inl (cA 4, zx_n r, .inr (.inr (.inr (.inr (fun k => (zx_nt (zx_rf r) k).map ad))))) := by unfold zc_el; rw [ht]; rfl
theorem zc_el5 {ad : Nat → Nat} {cA : Nat → ClassId} {h : zM} {r : Nat} (ht : zx_tg r = 5) : zc_el ad cA h r = .inl (cA 5, zx_n r, .inr (.inr (.inr (.inr (fun k => (zx_nt (zx_rf r) k).map ad))))) := by unfold zc_el; rw [ht]; rfl
/-- a cell is its memory's alone -/
theorem zc_el_of {ad : Nat → Nat} {cA : Nat → ClassId} {h h' : zM} {r : Nat} (e : ∀ k : Nat, h' r (k : Int) = h r (k : Int)) : zc_el ad cA h' r = zc_el ad cA h r := by
  have e1 : (fun k : Nat => Int32.ofInt (h' r (k : Int))) = (fun k : Nat => Int32.ofInt (h r (k : Int))) := funext fun k => by rw [e]
  have e2 : zc_fs ad h' r = zc_fs ad h r := by
    unfold zc_fs
    congr 1
    funext k
    rw [e]
  unfold zc_el
  rw [e1, e2]
theorem zc_st_ne {h : zM} {a b : Nat} {k v j : Int} (hb : b ≠ a) : zx_st h a k v b j = h b j := if_neg (fun z => hb z.1)
theorem zc_st_M {h : zM} {a : Nat} {k v : Int} (hM : zc_M h) (hv : zc_i v) : zc_M (zx_st h a k v) := by
  intro r j
  unfold zx_st
  by_cases c : r = a ∧ j = k
  · rw [if_pos c]; exact hv
  · rw [if_neg c]; exact hM r j
theorem zc_cp_M {h : zM} {a c : Nat} {sp dp n : Int} (hM : zc_M h) : zc_M (zx_cp h a sp c dp n) := by
  intro r j
  unfold zx_cp
  by_cases q : r = c ∧ dp ≤ j ∧ j < dp + n
  · rw [if_pos q]; exact hM _ _
  · rw [if_neg q]; exact hM _ _
/-- a row's store -/
theorem zc_upd {h : zM} {r : Nat} {k v : Int} (h0 : 0 ≤ k) : upd (fun j : Nat => Int32.ofInt (h r (j : Int))) k.toNat (Int32.ofInt v) = fun j : Nat => Int32.ofInt (zx_st h r k v r (j : Int)) := by
  funext j
  unfold upd zx_st
  by_cases c : j = k.toNat
  · subst c
    rw [if_pos rfl, if_pos ⟨rfl, by omega⟩]
  · rw [if_neg c, if_neg (fun z => c (by omega))]
/-- a row's copy -/
theorem zc_cpy {h : zM} {a c : Nat} {sp dp n : Int} (h1 : 0 ≤ sp) (h2 : 0 ≤ dp) (h3 : 0 ≤ n) : va_cpy (fun j : Nat => Int32.ofInt (h a (j : Int))) (fun j : Nat => Int32.ofInt (h c (j : Int))) sp.toNat dp.toNat n.toNat = fun j : Nat => Int32.ofInt (zx_cp h a sp c dp n c (j : Int)) := by
  funext j
  unfold va_cpy zx_cp
  by_cases q : dp.toNat ≤ j ∧ j < dp.toNat + n.toNat
  · rw [if_pos q, if_pos ⟨rfl, by omega, by omega⟩]
    have e : ((sp.toNat + (j - dp.toNat) : Nat) : Int) = sp + ((j : Int) - dp) := by omega
    show Int32.ofInt (h a ((sp.toNat + (j - dp.toNat) : Nat) : Int)) = _
    rw [e]
  · rw [if_neg q, if_neg (fun z => q ⟨by omega, by omega⟩)]
/-- a field's store -/
theorem zc_fput {ad : Nat → Nat} {h : zM} {r k : Nat} {v : Int} (hk : k < zx_n r) (hn : zx_nt (zx_rf r) k = none) : (zc_fs ad h r).set k (.int (Int32.ofInt v)) = zc_fs ad (zx_st h r (k : Int) v) r := by
  apply List.ext_getElem?
  intro j
  have hl : (zc_fs ad h r).length = zx_n r := by simp [zc_fs]
  have hl' : (zc_fs ad (zx_st h r (k : Int) v) r).length = zx_n r := by simp [zc_fs]
  rcases Nat.lt_or_ge j (zx_n r) with q | q
  · by_cases hj : j = k
    · subst hj
      rw [List.getElem?_set_self (by rw [hl]; exact q)]
      simp [zc_fs, List.getElem?_map, List.getElem?_range q, hn, zx_fld, zc_v, zx_st]
    · rw [List.getElem?_set_ne (fun z => hj z.symm)]
      have : zx_st h r (k : Int) v r (j : Int) = h r (j : Int) := if_neg (fun z => hj (by omega))
      simp [zc_fs, List.getElem?_map, List.getElem?_range q, this]
  · rw [List.getElem?_eq_none (by simp [hl]; exact q), List.getElem?_eq_none (by rw [hl']; exact q)]
theorem zc_fget {ad : Nat → Nat} {h : zM} {r k : Nat} (hk : k < zx_n r) : (zc_fs ad h r)[k]? = some (zc_v ad (zx_fld (zx_nt (zx_rf r) k) (h r (k : Int)))) := by
  simp [zc_fs, List.getElem?_map, List.getElem?_range hk]
theorem zc_flen (ad : Nat → Nat) (h : zM) (r : Nat) : (zc_fs ad h r).length = zx_n r := by simp [zc_fs]
/-! locals -/
def zc_L (ad : Nat → Nat) (L : zL) (nL : Nat) (ls : Array Slot) : Prop := ∃ lst : List (Nat × Value), lv_has ls nL lst ∧ ∀ i v, zx_lk L i = some v → (i, zc_v ad v) ∈ lst
def zc_okL (L : zL) : Prop := ∀ i v, zx_lk L i = some v → zc_ok v
theorem zc_L.at {ad : Nat → Nat} {L : zL} {nL : Nat} {ls : Array Slot} (h : zc_L ad L nL ls) {i : Nat} {v : zV} (hv : zx_lk L i = some v) : ls[i]? = some (.val (zc_v ad v)) := by
  obtain ⟨lst, h1, h2⟩ := h
  exact h1.2.2 _ (h2 i v hv)
theorem zc_L.size {ad : Nat → Nat} {L : zL} {nL : Nat} {ls : Array Slot} (h : zc_L ad L nL ls) : ls.size = nL := by
  obtain ⟨lst, h1, -⟩ := h
  exact h1.1
theorem zx_lk_se : ∀ (L : zL) (a i : Nat) (x v : zV), zx_lk (zx_se L a x) i = some v → (i = a ∧ v = x) ∨ (i ≠ a ∧ zx_lk L i = some v ∧ (i + 1 = a → ∀ y, v ≠ .inr (.inl y)))
  | [], _, _, _, _, h => by simp [zx_se, zx_lk] at h
  | _ :: l, 0, 0, x, v, h => by simp [zx_se, zx_lk] at h; exact Or.inl ⟨rfl, h.symm⟩
  | _ :: l, 0, i + 1, x, v, h => by
    simp only [zx_se, zx_lk] at h
    exact Or.inr ⟨by omega, h, fun z => by omega⟩
  | y :: l, 1, 0, x, v, h => by
    simp only [zx_se, zx_lk] at h
    refine Or.inr ⟨by omega, ?_, fun _ z e => ?_⟩
    · show y = some v
      rcases y with _ | (y | (y | y)) <;> simp [zx_kl] at h <;> first | exact h ▸ rfl | rw [h]
    · rcases y with _ | (y | (y | y)) <;> simp [zx_kl] at h <;> (rw [e] at h; simp at h)
  | y :: l, 1, i + 1, x, v, h => by
    simp only [zx_se, zx_lk] at h
    rcases zx_lk_se l 0 i x v h with ⟨h1, h2⟩ | ⟨h1, h2, h3⟩
    · exact Or.inl ⟨by omega, h2⟩
    · exact Or.inr ⟨by omega, h2, fun z => by omega⟩
  | y :: l, n + 2, 0, x, v, h => by
    simp only [zx_se, zx_lk] at h
    exact Or.inr ⟨by omega, h, fun z => by omega⟩
  | y :: l, n + 2, i + 1, x, v, h => by
    simp only [zx_se, zx_lk] at h
    rcases zx_lk_se l (n + 1) i x v h with ⟨h1, h2⟩ | ⟨h1, h2, h3⟩
    · exact Or.inl ⟨by omega, h2⟩
    · exact Or.inr ⟨by omega, h2, fun z => h3 (by omega)⟩
theorem zx_lk_cl : ∀ (L : zL) (a i : Nat) (v : zV), zx_lk (zx_cl L a) i = some v → i ≠ a ∧ zx_lk L i = some v
  | [], _, _, _, h => by simp [zx_cl, zx_lk] at h
  | _ :: l, 0, 0, v, h => by simp [zx_cl, zx_lk] at h
  | _ :: l, 0, i + 1, v, h => ⟨by omega, h⟩
  | y :: l, n + 1, 0, v, h => ⟨by omega, h⟩
  | y :: l, n + 1, i + 1, v, h => by
    obtain ⟨h1, h2⟩ := zx_lk_cl l n i v h
    exact ⟨by omega, h2⟩
theorem zc_cat (ad : Nat → Nat) {v : zV} (h : ∀ y, v ≠ .inr (.inl y)) : (zc_v ad v).category = 1 := by
  rcases v with v | (v | v)
  · rfl
  · exact absurd rfl (h v)
  · rfl
/-- a store: what the list of locals is behind it -/
theorem zc_se_in {ad : Nat → Nat} {L : zL} {lst : List (Nat × Value)} (h : ∀ i v, zx_lk L i = some v → (i, zc_v ad v) ∈ lst) (a : Nat) (x : zV) : ∀ i v, zx_lk (zx_se L a x) i = some v → (i, zc_v ad v) ∈ (a, zc_v ad x) :: lst.filter (fun q => !(q.1 == a) && !(q.1 + 1 == a && q.2.category == 2)) := by
  intro i v hv
  rcases zx_lk_se L a i x v hv with ⟨rfl, rfl⟩ | ⟨h1, h2, h3⟩
  · exact List.mem_cons_self
  · refine List.mem_cons_of_mem _ (List.mem_filter.mpr ⟨h i v h2, ?_⟩)
    by_cases q : i + 1 = a
    · simp [h1, q, zc_cat ad (h3 q)]
    · simp [h1, q]
theorem zc_se_ok {L : zL} (h : zc_okL L) {a : Nat} {x : zV} (hx : zc_ok x) : zc_okL (zx_se L a x) := by
  intro i v hv
  rcases zx_lk_se L a i x v hv with ⟨rfl, rfl⟩ | ⟨h1, h2, h3⟩
  · exact hx
  · exact h i v h2
theorem zc_cl_ok {L : zL} (h : zc_okL L) {a : Nat} : zc_okL (zx_cl L a) := fun i v hv => h i v (zx_lk_cl L a i v hv).2
end
section
def zx_sts : List Nat := [34, 38, 39, 40, 41, 42, 43, 44, 45, 46, 47, 48, 49, 50, 70, 77, 85, 121, 131, 136, 138, 166]
def zc_sr : List (String × Nat × String × Nat) := [("PointMaker", 314, "plus", 3), ("PointMaker", 316, "less", 4), ("PointMaker", 318, "same", 5), ("PointMaker", 320, "more", 6), ("PointMaker$Letters", 66, "say", 2), ("PointMaker$Letters", 75, "set ", 10), ("PointMaker$Letters", 84, "stop", 7), ("PointMaker$Letters", 86, "goto ", 11), ("PointMaker$Letters", 88, "if ", 12), ("PointMaker$Reader", 98, "block", 0), ("PointMaker$Reader", 106, "set", 1), ("PointMaker$Reader", 108, "say", 2), ("PointMaker$Reader", 135, "stop", 7), ("PointMaker$Reader", 137, "goto", 8), ("PointMaker$Reader", 142, "if", 9)]
def zc_nS : Nat := 13
def zc_lS : List Nat := [5, 3, 3, 4, 4, 4, 4, 4, 4, 2, 4, 5, 3]
def zc_bS : List (List Int32) := [[98, 108, 111, 99, 107], [115, 101, 116], [115, 97, 121], [112, 108, 117, 115], [108, 101, 115, 115], [115, 97, 109, 101], [109, 111, 114, 101], [115, 116, 111, 112], [103, 111, 116, 111], [105, 102], [115, 101, 116, 32], [103, 111, 116, 111, 32], [105, 102, 32]]
/-! WORDS: those of the tables that stay; those of nest mates -/
def zc_isN : Cond → Bool
  | .methodLinkNest .. => true
  | _ => false
def zc_tb : List Cond := lw_tbl.filter goodWord
def zc_nw : List Cond := lw_tbl.filter zc_isN
def zc_wsj (j : Nat) : List Cond := .code (zx_y j) (zx_by j) (zx_ml j) (zx_rt j) :: zc_tb
def zc_own (j : Nat) : String := (zx_y j).cls
/-! WHAT A PROGRAM CHECKS of a row of code -/
def zk_d (j pc : Nat) (ins : Instr) (len : Nat) : Bool := decide (decode (zx_by j) pc = .ok (ins, len))
def zk_s (j i pc : Nat) (ins : Instr) (len : Nat) : Bool := zk_d j pc ins len && decide (zx_pc j (i + 1) = pc + len)
def zk_t (j pc : Nat) (o : Int) (a : Nat) : Bool := decide ((pc : Int) + o = (zx_pc j a : Int))
def zk_w (k : Nat) (w : Cond) : Bool := decide (lw_tbl[k]? = some w) && goodWord w
def zk_nw (k : Nat) (w : Cond) : Bool := decide (lw_tbl[k]? = some w) && zc_isN w
def zk_ri (d : Int) : Bool := decide (-2147483648 ≤ d ∧ d < 2147483648)
def zk_rl (d : Int) : Bool := decide (-9223372036854775808 ≤ d ∧ d < 9223372036854775808)
def zk_str (own : String) (k a : Nat) : Bool := zc_sr.any (fun q => (q.1 == own && q.2.1 == k) && 1000 + q.2.2.2 == a)
def zk_f (j k a b : Nat) (d : Int) (ts : List (Int × Nat)) (put : Bool) (ty : FieldType) : Bool := match ts, vwCl[a]? with
  | [(q, _)], some (_, T, N) => decide (d = (b : Int)) && decide (b < N) && zk_w q.toNat (.fieldLink (zc_own j) k (T b).1 (T b).2.1 (T b).2.2.1) && (!put || (!(T b).2.2.2 && decide (parseFieldDescriptor (T b).2.2.1 = some ty)))
  | _, _ => false
/-- the targets of a switch, by order -/
def zk_tab (j pc : Nat) (lo : Int) : List Int → List (Int × Nat) → Bool
  | [], [] => true
  | o :: os, (v, t) :: ts => decide (v = lo) && zk_t j pc o t && zk_tab j pc (lo + 1) os ts
  | _, _ => false
def zk_lkp (j pc : Nat) : List (Int × Int) → List (Int × Nat) → Bool
  | [], [] => true
  | (w, o) :: os, (v, t) :: ts => decide (v = w) && zk_t j pc o t && zk_lkp j pc os ts
  | _, _ => false
/-- a callee: its words, its room, its arguments -/
def zk_c (j a n : Nat) (st : Bool) : Bool :=
  decide (a < 204) && zk_w (zx_mt a).2.2.2.2.2.2.2.1 (.code (zx_y a) (zx_by a) (zx_ml a) (zx_rt a)) && zk_w (zx_mt a).2.2.2.2.2.2.2.2.1 (if st then .static (zx_y a) else .instanceMethod (zx_y a)) && (st || zk_w (zx_mt a).2.2.2.2.2.2.2.2.2.1 (.selects (zc_own a) (zx_y a) (zx_y a))) && zk_w (zx_mt a).2.2.2.2.2.2.2.2.2.2 (.initialized (zc_own a)) &&
  decide ((zx_rm a).frames + 1 ≤ (zx_rm j).frames) && decide (8 + (zx_ml a + 11) + (zx_rm a).locals ≤ (zx_rm j).locals) && decide ((parseMethodDescriptor (zx_y a).desc).map (fun d => d.parameters.length) = some n) && decide (zc_own a ≠ "java/lang/invoke/MethodHandle") && decide (zc_own a ≠ "java/lang/invoke/VarHandle") && (zx_sts.contains a == st)
def zk_l (j k a : Nat) (ts : List (Int × Nat)) : Bool := match ts with
  | [(q, 0)] => zk_w q.toNat (.methodLink (zc_own j) k (zx_y a))
  | [(q, 1)] => zk_nw q.toNat (.methodLinkNest (zc_own j) k (zx_y a) "PointMaker")
  | _ => false
def zk_m (j : Nat) (ts : List (Int × Nat)) (y : MethodName) (lo : Nat) : Bool := match ts with
  | [(q, k)] => zk_w q.toNat (.methodLink (zc_own j) k y) && decide (1 ≤ (zx_rm j).frames) && decide (8 + lo ≤ (zx_rm j).locals)
  | _ => false
def zk_ix (ts : List (Int × Nat)) : Nat := match ts with
  | [(_, k)] => k
  | _ => 0
def zk_ret (j : Nat) (v : Bool) : Bool := match zx_rt j with
  | some (.object _) => v
  | _ => false
def zk_e (j i : Nat) (e : zE) : Bool := match e with
  | (pc, ins, len, a, b, d, ts) => decide (zx_pc j i = pc) && match ins with
  | .iload n => zk_s j i pc (.iload n) 2 && decide (n = a)
  | .iload_n n => zk_s j i pc (.iload_n n) 1 && decide ((n : Nat) = a)
  | .lload n => zk_s j i pc (.lload n) 2 && decide (n = a)
  | .lload_n n => zk_s j i pc (.lload_n n) 1 && decide ((n : Nat) = a)
  | .aload n => zk_s j i pc (.aload n) 2 && decide (n = a)
  | .aload_n n => zk_s j i pc (.aload_n n) 1 && decide ((n : Nat) = a)
  | .iconst n => zk_s j i pc (.iconst n) 1 && decide (Int32.ofInt n = Int32.ofInt d) && zk_ri d
  | .bipush n => zk_s j i pc (.bipush n) 2 && decide ((Int8.ofInt n).toInt32 = Int32.ofInt d) && zk_ri d
  | .sipush n => zk_s j i pc (.sipush n) 3 && decide ((Int16.ofInt n).toInt32 = Int32.ofInt d) && zk_ri d
  | .lconst n => zk_s j i pc (.lconst n) 1 && decide (Int64.ofNat (n : Nat) = Int64.ofInt d) && zk_rl d
  | .ldc2_w n => zk_s j i pc (.ldc2_w n) 3 && zk_w a (.constantLong (zc_own j) n (Int64.ofInt d)) && zk_rl d
  | .ldc n => (match b with
    | 0 => zk_s j i pc (.ldc n) 2 && zk_w a (.constant (zc_own j) n (Int32.ofInt d)) && zk_ri d
    | _ + 1 => zk_s j i pc (.ldc n) 2 && zk_str (zc_own j) n a)
  | .ldc_w n => (match b with
    | 0 => zk_s j i pc (.ldc_w n) 3 && zk_w a (.constant (zc_own j) n (Int32.ofInt d)) && zk_ri d
    | _ + 1 => zk_s j i pc (.ldc_w n) 3 && zk_str (zc_own j) n a)
  | .istore n => zk_s j i pc (.istore n) 2 && decide (n = a) && decide (a < zx_ml j)
  | .istore_n n => zk_s j i pc (.istore_n n) 1 && decide ((n : Nat) = a) && decide (a < zx_ml j)
  | .astore n => zk_s j i pc (.astore n) 2 && decide (n = a) && decide (a < zx_ml j)
  | .astore_n n => zk_s j i pc (.astore_n n) 1 && decide ((n : Nat) = a) && decide (a < zx_ml j)
  | .lstore n => zk_s j i pc (.lstore n) 2 && decide (n = a) && decide (a + 1 < zx_ml j)
  | .iinc n v => zk_s j i pc (.iinc n v) 3 && decide (n = a) && decide (v = d) && decide (a < zx_ml j)
  | .iadd => zk_s j i pc .iadd 1
  | .isub => zk_s j i pc .isub 1
  | .fadd => zk_s j i pc .iadd 1
  | .fsub => zk_s j i pc .isub 1
  | .fmul => zk_s j i pc .imul 1
  | .imul => zk_s j i pc .imul 1
  | .iand => zk_s j i pc .iand 1
  | .ior => zk_s j i pc .ior 1
  | .ixor => zk_s j i pc .ixor 1
  | .ishl => zk_s j i pc .ishl 1
  | .ishr => zk_s j i pc .ishr 1
  | .iushr => zk_s j i pc .iushr 1
  | .idiv => zk_s j i pc .idiv 1
  | .irem => zk_s j i pc .irem 1
  | .i2b => zk_s j i pc .i2b 1
  | .d2i => zk_s j i pc .i2b 1
  | .i2s => zk_s j i pc .i2s 1
  | .i2l => zk_s j i pc .i2l 1
  | .l2i => zk_s j i pc .l2i 1
  | .ladd => zk_s j i pc .ladd 1
  | .lcmp => zk_s j i pc .lcmp 1
  | .dup => zk_s j i pc .dup 1
  | .dup2 => zk_s j i pc .dup2 1
  | .pop => zk_s j i pc .pop 1
  | .goto n => zk_d j pc (.goto n) 3 && zk_t j pc n a
  | .ifCond q n => zk_s j i pc (.ifCond q n) 3 && zk_t j pc n a
  | .if_icmp q n => zk_s j i pc (.if_icmp q n) 3 && zk_t j pc n a
  | .tableswitch n lo hi os => zk_d j pc (.tableswitch n lo hi os) len && zk_t j pc n a && zk_tab j pc lo os.toList ts && decide (hi + 1 = lo + (os.size : Int))
  | .lookupswitch n os => zk_d j pc (.lookupswitch n os) len && zk_t j pc n a && zk_lkp j pc os.toList ts && (os.toList.zip (os.toList.drop 1)).all (fun (a, next) => a.1 < next.1)
  | .getfield n => zk_s j i pc (.getfield n) 3 && zk_f j n a b d ts false .int
  | .putfield n => zk_s j i pc (.putfield n) 3 && zk_f j n a b d ts true .int
  | .putstatic n => zk_s j i pc (.putfield n) 3 && zk_f j n a b d ts true .boolean
  | .arraylength => zk_s j i pc .arraylength 1
  | .iaload => zk_s j i pc .iaload 1
  | .baload => zk_s j i pc .baload 1
  | .saload => zk_s j i pc .baload 1
  | .aaload => zk_s j i pc .aaload 1
  | .iastore => zk_s j i pc .iastore 1
  | .bastore => zk_s j i pc .bastore 1
  | .sastore => zk_s j i pc .bastore 1
  | .monitorenter => zk_s j i pc (.invokestatic (zk_ix ts)) 3 && zk_m j ts Lib.Math.max.name 13
  | .monitorexit => zk_s j i pc (.invokestatic (zk_ix ts)) 3 && zk_m j ts Lib.Math.min.name 13
  | .swap => zk_s j i pc (.invokestatic (zk_ix ts)) 3 && zk_m j ts arraycopyName (nativeFrameWords "java/lang/System" "arraycopy" 5 + 11)
  | .invokevirtual n => zk_s j i pc (.invokevirtual n) 3 && zk_c j a (b - 1) false && zk_l j n a ts && decide (0 < b)
  | .invokestatic n => zk_s j i pc (.invokestatic n) 3 && zk_c j a b true && zk_l j n a ts
  | .ireturn => zk_d j pc .ireturn 1 && decide (zx_rt j = some .int)
  | .freturn => zk_d j pc .ireturn 1 && decide (zx_rt j = some .boolean)
  | .areturn => zk_d j pc .areturn 1 && zk_ret j true
  | .return_ => zk_d j pc .return_ 1 && decide (zx_rt j = none)
  | _ => true
/-! inversions -/
theorem zx_tf {b : Bool} {P : Prop} (h : match b with | true => P | false => False) : b = true ∧ P := by
  cases b
  · exact h.elim
  · exact ⟨rfl, h⟩
theorem zx_ob_of {r a b : Nat} (h : zx_obB r a b = true) : zx_ob r a b := by
  simp only [zx_obB, Bool.and_eq_true] at h
  exact ⟨Nat.eq_of_beq_eq_true h.1.1, Nat.eq_of_beq_eq_true h.1.2, Nat.le_of_ble_eq_true h.2⟩
theorem zx_noR_of {o : Option Nat} (h : zx_noR o = true) : o = none := by
  cases o with
  | none => rfl
  | some q => cases h
theorem zx_isA_of {r : Nat} (h : zx_isA r = true) : zx_arr r := by
  simp only [zx_isA, Bool.or_eq_true] at h
  rcases h with (h | h) | h
  · exact Or.inl (Nat.eq_of_beq_eq_true h)
  · exact Or.inr (Or.inl (Nat.eq_of_beq_eq_true h))
  · exact Or.inr (Or.inr (Nat.eq_of_beq_eq_true h))
theorem zx_isR_of {r : Nat} (h : zx_isR r = true) : zx_tg r = 4 ∨ zx_tg r = 5 := by
  simp only [zx_isR, Bool.or_eq_true] at h
  rcases h with h | h
  · exact Or.inl (Nat.eq_of_beq_eq_true h)
  · exact Or.inr (Nat.eq_of_beq_eq_true h)
theorem zx_p1_inv {S : List zV} {k : Int → List zV → Prop} (h : zx_p1 S k) : ∃ x S2, S = .inl x :: S2 ∧ k x S2 := by
  unfold zx_p1 at h
  split at h
  · exact ⟨_, _, rfl, h⟩
  · exact h.elim
theorem zx_p2_inv {S : List zV} {k : Int → Int → List zV → Prop} (h : zx_p2 S k) : ∃ x y S2, S = .inl y :: .inl x :: S2 ∧ k x y S2 := by
  unfold zx_p2 at h
  split at h
  · exact ⟨_, _, _, rfl, h⟩
  · exact h.elim
theorem zx_pr_inv {S : List zV} {k : Nat → List zV → Prop} (h : zx_pr S k) : ∃ x S2, S = .inr (.inr x) :: S2 ∧ k x S2 := by
  unfold zx_pr at h
  split at h
  · exact ⟨_, _, rfl, h⟩
  · exact h.elim
theorem zx_pi_inv {S : List zV} {k : Nat → Int → List zV → Prop} (h : zx_pi S k) : ∃ r x S2, S = .inl x :: .inr (.inr r) :: S2 ∧ k r x S2 := by
  unfold zx_pi at h
  split at h
  · exact ⟨_, _, _, rfl, h⟩
  · exact h.elim
theorem zx_pii_inv {S : List zV} {k : Nat → Int → Int → List zV → Prop} (h : zx_pii S k) : ∃ r x v S2, S = .inl v :: .inl x :: .inr (.inr r) :: S2 ∧ k r x v S2 := by
  unfold zx_pii at h
  split at h
  · exact ⟨_, _, _, _, rfl, h⟩
  · exact h.elim
theorem zx_li_inv {o : Option zV} {k : Int → Prop} (h : zx_li o k) : ∃ x, o = some (.inl x) ∧ k x := by
  unfold zx_li at h
  split at h
  · exact ⟨_, rfl, h⟩
  · exact h.elim
theorem zx_ll_inv {o : Option zV} {k : Int → Prop} (h : zx_ll o k) : ∃ x, o = some (.inr (.inl x)) ∧ k x := by
  unfold zx_ll at h
  split at h
  · exact ⟨_, rfl, h⟩
  · exact h.elim
theorem zx_lr_inv {o : Option zV} {k : Nat → Prop} (h : zx_lr o k) : ∃ x, o = some (.inr (.inr x)) ∧ k x := by
  unfold zx_lr at h
  split at h
  · exact ⟨_, rfl, h⟩
  · exact h.elim
theorem zx_pl_inv {S : List zV} {k : Int → List zV → Prop} (h : match S with | .inr (.inl x) :: S => k x S | _ => False) : ∃ x S2, S = .inr (.inl x) :: S2 ∧ k x S2 := by
  split at h
  · exact ⟨_, _, rfl, h⟩
  · exact h.elim
theorem zx_pl2_inv {S : List zV} {k : Int → Int → List zV → Prop} (h : match S with | .inr (.inl y) :: .inr (.inl x) :: S => k x y S | _ => False) : ∃ x y S2, S = .inr (.inl y) :: .inr (.inl x) :: S2 ∧ k x y S2 := by
  split at h
  · exact ⟨_, _, _, rfl, h⟩
  · exact h.elim
/-! more of numbers -/
theorem zc_div {x y : Int} (hx : zc_i x) (hy : zc_i y) (h0 : 0 ≤ x) (h1 : 0 < y) : Int32.ofInt x / Int32.ofInt y = Int32.ofInt (x / y) ∧ zc_i (x / y) := by
  have hr : zc_i (x / y) := by
    have a1 := Int.ediv_nonneg h0 (Int.le_of_lt h1)
    have a2 : x / y ≤ x := Int.ediv_le_self _ h0
    have := hx.2
    exact ⟨by omega, by omega⟩
  refine ⟨?_, hr⟩
  apply Int32.toInt_inj.1
  have hne : ¬ (Int32.ofInt x = Int32.minValue ∧ Int32.ofInt y = -1) := by
    intro z
    have := congrArg Int32.toInt z.2
    rw [zc_io hy] at this
    have e : (-1 : Int32).toInt = -1 := by decide
    omega
  rw [Int32.toInt_div_of_ne_left, zc_io hx, zc_io hy, zc_io hr, Int.tdiv_eq_ediv_of_nonneg h0]
  intro z
  have := congrArg Int32.toInt z
  rw [zc_io hx] at this
  have e : (Int32.minValue).toInt = -2147483648 := by decide
  omega
theorem zc_rem {x y : Int} (hx : zc_i x) (hy : zc_i y) (h0 : 0 ≤ x) (h1 : 0 < y) : Int32.ofInt x - Int32.ofInt x / Int32.ofInt y * Int32.ofInt y = Int32.ofInt (x % y) ∧ zc_i (x % y) := by
  have a1 := Int.emod_nonneg x (show y ≠ 0 by omega)
  have a2 := Int.emod_lt_of_pos x h1
  have := hy.2
  refine ⟨?_, by unfold zc_i; omega⟩
  rw [(zc_div hx hy h0 h1).1, ← Int32.ofInt_mul, ← Int32.ofInt_sub, Int.emod_def, Int.mul_comm y]
theorem zc_byte {x : Int} (h : -128 ≤ x ∧ x < 128) : (Int32.ofInt x).toInt8.toInt32 = Int32.ofInt x := by
  apply Int32.toInt_inj.1
  have hx : zc_i x := by unfold zc_i; omega
  rw [Int8.toInt_toInt32, Int32.toInt_toInt8, zc_io hx, Int.bmod_eq_of_le (by omega) (by omega)]
theorem zc_lt0 {x : Int} (hx : zc_i x) : Int32.ofInt x < 0 ↔ x < 0 := by rw [← zc_0]; exact zc_lt hx zc_i0
theorem zc_gt0 {x : Int} (hx : zc_i x) : 0 < Int32.ofInt x ↔ 0 < x := by rw [← zc_0]; exact zc_lt zc_i0 hx
theorem zc_le0 {x : Int} (hx : zc_i x) : Int32.ofInt x ≤ 0 ↔ x ≤ 0 := by rw [← zc_0]; exact zc_le hx zc_i0
theorem zc_ge0 {x : Int} (hx : zc_i x) : 0 ≤ Int32.ofInt x ↔ 0 ≤ x := by rw [← zc_0]; exact zc_le zc_i0 hx
theorem zc_eq0 {x : Int} (hx : zc_i x) : Int32.ofInt x = 0 ↔ x = 0 := by rw [← zc_0]; exact zc_eq hx zc_i0
theorem zc_il {x : Int} (hx : zc_i x) : zc_l x := by
  obtain ⟨h1, h2⟩ := hx
  exact ⟨by omega, by omega⟩
theorem zc_i2l {x : Int} (hx : zc_i x) : (Int32.ofInt x).toInt64 = Int64.ofInt x := by
  apply Int64.toInt_inj.1
  rw [Int32.toInt_toInt64, zc_io hx, zc_lo (zc_il hx)]
theorem zc_l2i {x : Int} (hx : zc_l x) : (Int64.ofInt x).toInt32 = Int32.ofInt (zx_wr x) := by
  rw [zc_wr]
  apply Int32.toInt_inj.1
  rw [Int64.toInt_toInt32, zc_lo hx, Int32.toInt_ofInt]
theorem zc_lcmp {x y : Int} (hx : zc_l x) (hy : zc_l y) : lg_cmp (Int64.ofInt x) (Int64.ofInt y) = Int32.ofInt (zx_lcmp x y) := by
  unfold lg_cmp zx_lcmp
  have e1 : Int64.ofInt y < Int64.ofInt x ↔ y < x := by rw [Int64.lt_iff_toInt_lt, zc_lo hx, zc_lo hy]
  have e2 : Int64.ofInt x = Int64.ofInt y ↔ x = y := ⟨fun h => by rw [← zc_lo hx, ← zc_lo hy, h], fun h => by rw [h]⟩
  by_cases c1 : x < y
  · rw [if_pos c1, if_neg (fun z => by have := e1.mp z; omega), if_neg (fun z => by have := e2.mp z; omega)]; rfl
  · by_cases c2 : x = y
    · rw [if_neg c1, if_pos c2, if_neg (fun z => by have := e1.mp z; omega), if_pos (e2.mpr c2)]; rfl
    · rw [if_neg c1, if_neg c2, if_pos (e1.mpr (by omega))]; rfl
theorem zc_lcmp_i (x y : Int) : zc_i (zx_lcmp x y) := by
  unfold zx_lcmp zc_i
  split
  · omega
  · split <;> omega
/-- a long's store: what the list of locals is behind it -/
theorem zc_sl_in {ad : Nat → Nat} {L : zL} {lst : List (Nat × Value)} (h : ∀ i v, zx_lk L i = some v → (i, zc_v ad v) ∈ lst) (a : Nat) (x : Int) : ∀ i v, zx_lk (zx_cl (zx_se L a (.inr (.inl x))) (a + 1)) i = some v → (i, zc_v ad v) ∈ (a, Value.long (Int64.ofInt x)) :: lst.filter (fun q => !(q.1 == a) && (!(q.1 == a + 1) && !(q.1 + 1 == a && q.2.category == 2))) := by
  intro i v hv
  obtain ⟨h0, hv⟩ := zx_lk_cl _ _ _ _ hv
  rcases zx_lk_se L a i _ v hv with ⟨rfl, rfl⟩ | ⟨h1, h2, h3⟩
  · exact List.mem_cons_self
  · refine List.mem_cons_of_mem _ (List.mem_filter.mpr ⟨h i v h2, ?_⟩)
    by_cases q : i + 1 = a
    · simp [h0, h1, q, zc_cat ad (h3 q)]
    · simp [h0, h1, q]
/-! THE CONTEXT of a walk -/
/-- what is said of nest mates, constant texts, the JDK's statics -/
def zc_X (ad adV : Nat → Nat) (A : Nat → Prop) (U : State) (H : Heap) : Prop :=
  (∀ w ∈ zc_nw, va_Nw w U) ∧ (∀ q ∈ zc_sr, vk_R q.1 q.2.1 q.2.2.1 (ad (1000 + q.2.2.2)) U) ∧ vk_S zc_nS zc_lS zc_bS (fun i => ad (1000 + i)) adV A U H ∧ va_Z "java/lang/String" "COMPACT_STRINGS" "Z" (.int 1) A U H ∧ ∃ v, (v = .null ∨ ∃ a, v = .ref a) ∧ va_Z "jdk/internal/util/Preconditions" "SIOOBE_FORMATTER" "Ljava/util/function/BiFunction;" v A U H
def zc_C (j : Nat) (p : Program) (s : State) (m : MethodId) (args : Array Value) (meth : Method) (c : Code) (D : va_G) (ad adV : Nat → Nat) (cA : Nat → ClassId) (A : Nat → Prop) : Prop :=
  p.tables.exec = Jvm.exec ∧ c.code = zx_by j ∧ meth.sig.returnType = zx_rt j ∧ c.maxLocals = zx_ml j ∧ s.vm.findClass (zc_own j) = some m.cls ∧ (∀ w ∈ zc_tb, w.before args s = true) ∧ meth.locks = false ∧ va_K D vwCl (zc_tys cA) s ∧ zc_X ad adV A s s.heap ∧ (∀ q, s.heap.size ≤ q → A q)
def zc_I (j : Nat) (s : State) (D : va_G) (ad : Nat → Nat) (cA : Nat → ClassId) (A : Nat → Prop) (L : zL) (S : List zV) (h : zM) (H : Heap) (locs : List Loc) (ls : Array Slot) : Prop :=
  (va_P D vwCl (zc_ws ad cA h) H ∧ va_D A (zc_ws ad cA h) ∧ va_S A s.heap H locs) ∧ (zc_L ad L (zx_ml j) ls ∧ zc_okL L) ∧ zc_okS S ∧ zc_M h
def zc_W (j : Nat) (p : Program) (l : Launch) (e : Env) (s : State) (m : MethodId) (args : Array Value) (below : List Frame) (meth : Method) (c : Code) (D : va_G) (ad adV : Nat → Nat) (cA : Nat → ClassId) (A : Nat → Prop) (Qf : State → Prop) (i : Nat) (L : zL) (S : List zV) (h : zM) : Prop :=
  ∀ (H : Heap) (locs : List Loc) (ls : Array Slot), zc_I j s D ad cA A L S h H locs ls → W p l e (zx_rm j) s m args below meth c H locs 0 0 Qf (F0 m (zx_pc j i) ls (S.map (zc_v ad)))
theorem zk_w_in {k : Nat} {w : Cond} (h : zk_w k w = true) : w ∈ zc_tb := by
  unfold zk_w at h
  rw [Bool.and_eq_true, decide_eq_true_eq] at h
  exact List.mem_filter.mpr ⟨List.mem_of_getElem? h.1, h.2⟩
theorem zk_nw_in {k : Nat} {w : Cond} (h : zk_nw k w = true) : w ∈ zc_nw := by
  unfold zk_nw at h
  rw [Bool.and_eq_true, decide_eq_true_eq] at h
  exact List.mem_filter.mpr ⟨List.mem_of_getElem? h.1, h.2⟩
section ZS
variable {j : Nat} {p : Program} {l : Launch} {e : Env} {s : State} {m : MethodId} {args : Array Value} {below : List Frame} {meth : Method} {c : Code} {D : va_G} {ad adV : Nat → Nat} {cA : Nat → ClassId} {A : Nat → Prop} {Qf : State → Prop} {i : Nat} {L : zL} {S : List zV} {h : zM} {Q : zQ} {K : Nat → zL → List zV → zM → Prop} {R : Nat → List zV → zM → zQ → Prop}
theorem zc_C.word (C : zc_C j p s m args meth c D ad adV cA A) {k : Nat} {w : Cond} (h : zk_w k w = true) : w.before args s = true := C.2.2.2.2.2.1 w (zk_w_in h)
theorem zc_I.push {H : Heap} {locs : List Loc} {ls : Array Slot} (I : zc_I j s D ad cA A L S h H locs ls) {v : zV} (hv : zc_ok v) : zc_I j s D ad cA A L (v :: S) h H locs ls := ⟨I.1, I.2.1, List.forall_mem_cons.mpr ⟨hv, I.2.2.1⟩, I.2.2.2⟩
theorem zc_I.top {H : Heap} {locs : List Loc} {ls : Array Slot} {v : zV} (I : zc_I j s D ad cA A L (v :: S) h H locs ls) : zc_ok v := (List.forall_mem_cons.mp I.2.2.1).1
theorem zc_I.rest {H : Heap} {locs : List Loc} {ls : Array Slot} {v : zV} (I : zc_I j s D ad cA A L (v :: S) h H locs ls) : zc_I j s D ad cA A L S h H locs ls := ⟨I.1, I.2.1, (List.forall_mem_cons.mp I.2.2.1).2, I.2.2.2⟩
theorem zc_next {i2 pc2 : Nat} {L2 : zL} {S2 : List zV} {h2 : zM} {H : Heap} {locs : List Loc} {ls : Array Slot} (hK : ∀ i2 L2 S2 h2, K i2 L2 S2 h2 → zc_W j p l e s m args below meth c D ad adV cA A Qf i2 L2 S2 h2) (hn : zx_pc j i2 = pc2) (hk : K i2 L2 S2 h2) (I : zc_I j s D ad cA A L2 S2 h2 H locs ls) : W p l e (zx_rm j) s m args below meth c H locs 0 0 Qf (F0 m pc2 ls (S2.map (zc_v ad))) := by
  have := hK _ _ _ _ hk H locs ls I
  rw [hn] at this
  exact this
theorem zc_ldcwS {H : Heap} {locs : List Loc} {ls : Array Slot} {cc : ByteArray} {pc : Nat} {rest : List Value} {RR : Room} {cells slots : Nat} (hexec : p.tables.exec = Jvm.exec) (hb : c.code = cc) {own tx : String} {index q : Nat} (hown : s.vm.findClass own = some m.cls) (hZ : vk_R own index tx q s) (hdg : decode cc pc = .ok (.ldc_w index, 3))
    (k : W p l e RR s m args below meth c H locs cells slots Qf (F0 m (pc + 3) ls (.ref q :: rest))) : W p l e RR s m args below meth c H locs cells slots Qf (F0 m pc ls rest) := by
  intro T hT X
  obtain ⟨t, a1, b1⟩ := k T hT X
  exact ⟨t, X.ldcStringW hexec hown (text := tx) (a := q) hZ.1 hZ.2 (g := F0 m pc ls rest) rfl (by rw [hb]; exact hdg) t a1, b1⟩

theorem zs_iload {n : Nat} {pc len a b : Nat} {d : Int} {ts : List (Int × Nat)} (C : zc_C j p s m args meth c D ad adV cA A) (he : zk_e j i (pc, .iload n, len, a, b, d, ts) = true) (hA : zx_act R (pc, .iload n, len, a, b, d, ts) i L S h Q K) (hK : ∀ i2 L2 S2 h2, K i2 L2 S2 h2 → zc_W j p l e s m args below meth c D ad adV cA A Qf i2 L2 S2 h2) : zc_W j p l e s m args below meth c D ad adV cA A Qf i L S h := by
  intro H locs ls I
  simp only [zk_e, Bool.and_eq_true, decide_eq_true_eq, zk_s, zk_d, zk_t, zk_ri, zk_rl] at he
  obtain ⟨hpc, ⟨hd, hn⟩, ha⟩ := he
  subst ha
  obtain ⟨x, hx, hk⟩ := zx_li_inv hA
  rw [hpc]
  refine lv_iload C.1 C.2.1 hd (I.2.1.1.at hx) ?_
  exact zc_next hK hn hk (I.push (I.2.1.2 _ _ hx))
theorem zs_iload_n {n : Fin 4} {pc len a b : Nat} {d : Int} {ts : List (Int × Nat)} (C : zc_C j p s m args meth c D ad adV cA A) (he : zk_e j i (pc, .iload_n n, len, a, b, d, ts) = true) (hA : zx_act R (pc, .iload_n n, len, a, b, d, ts) i L S h Q K) (hK : ∀ i2 L2 S2 h2, K i2 L2 S2 h2 → zc_W j p l e s m args below meth c D ad adV cA A Qf i2 L2 S2 h2) : zc_W j p l e s m args below meth c D ad adV cA A Qf i L S h := by
  intro H locs ls I
  simp only [zk_e, Bool.and_eq_true, decide_eq_true_eq, zk_s, zk_d, zk_t, zk_ri, zk_rl] at he
  obtain ⟨hpc, ⟨hd, hn⟩, ha⟩ := he
  obtain ⟨x, hx, hk⟩ := zx_li_inv hA
  rw [hpc]
  refine lv_iload_n C.1 C.2.1 hd ha (I.2.1.1.at hx) ?_
  exact zc_next hK hn hk (I.push (I.2.1.2 _ _ hx))
theorem zs_lload {n : Nat} {pc len a b : Nat} {d : Int} {ts : List (Int × Nat)} (C : zc_C j p s m args meth c D ad adV cA A) (he : zk_e j i (pc, .lload n, len, a, b, d, ts) = true) (hA : zx_act R (pc, .lload n, len, a, b, d, ts) i L S h Q K) (hK : ∀ i2 L2 S2 h2, K i2 L2 S2 h2 → zc_W j p l e s m args below meth c D ad adV cA A Qf i2 L2 S2 h2) : zc_W j p l e s m args below meth c D ad adV cA A Qf i L S h := by
  intro H locs ls I
  simp only [zk_e, Bool.and_eq_true, decide_eq_true_eq, zk_s, zk_d, zk_t, zk_ri, zk_rl] at he
  obtain ⟨hpc, ⟨hd, hn⟩, ha⟩ := he
  subst ha
  obtain ⟨x, hx, hk⟩ := zx_ll_inv hA
  rw [hpc]
  refine lv_lload C.1 C.2.1 hd (I.2.1.1.at hx) ?_
  exact zc_next hK hn hk (I.push (I.2.1.2 _ _ hx))
theorem zs_lload_n {n : Fin 4} {pc len a b : Nat} {d : Int} {ts : List (Int × Nat)} (C : zc_C j p s m args meth c D ad adV cA A) (he : zk_e j i (pc, .lload_n n, len, a, b, d, ts) = true) (hA : zx_act R (pc, .lload_n n, len, a, b, d, ts) i L S h Q K) (hK : ∀ i2 L2 S2 h2, K i2 L2 S2 h2 → zc_W j p l e s m args below meth c D ad adV cA A Qf i2 L2 S2 h2) : zc_W j p l e s m args below meth c D ad adV cA A Qf i L S h := by
  intro H locs ls I
  simp only [zk_e, Bool.and_eq_true, decide_eq_true_eq, zk_s, zk_d, zk_t, zk_ri, zk_rl] at he
  obtain ⟨hpc, ⟨hd, hn⟩, ha⟩ := he
  obtain ⟨x, hx, hk⟩ := zx_ll_inv hA
  rw [hpc]
  refine lv_lload_n C.1 C.2.1 hd ha (I.2.1.1.at hx) ?_
  exact zc_next hK hn hk (I.push (I.2.1.2 _ _ hx))
theorem zs_aload {n : Nat} {pc len a b : Nat} {d : Int} {ts : List (Int × Nat)} (C : zc_C j p s m args meth c D ad adV cA A) (he : zk_e j i (pc, .aload n, len, a, b, d, ts) = true) (hA : zx_act R (pc, .aload n, len, a, b, d, ts) i L S h Q K) (hK : ∀ i2 L2 S2 h2, K i2 L2 S2 h2 → zc_W j p l e s m args below meth c D ad adV cA A Qf i2 L2 S2 h2) : zc_W j p l e s m args below meth c D ad adV cA A Qf i L S h := by
  intro H locs ls I
  simp only [zk_e, Bool.and_eq_true, decide_eq_true_eq, zk_s, zk_d, zk_t, zk_ri, zk_rl] at he
  obtain ⟨hpc, ⟨hd, hn⟩, ha⟩ := he
  subst ha
  obtain ⟨x, hx, hk⟩ := zx_lr_inv hA
  rw [hpc]
  refine lv_aload C.1 C.2.1 hd (I.2.1.1.at hx) ?_
  exact zc_next hK hn hk (I.push (I.2.1.2 _ _ hx))
theorem zs_aload_n {n : Fin 4} {pc len a b : Nat} {d : Int} {ts : List (Int × Nat)} (C : zc_C j p s m args meth c D ad adV cA A) (he : zk_e j i (pc, .aload_n n, len, a, b, d, ts) = true) (hA : zx_act R (pc, .aload_n n, len, a, b, d, ts) i L S h Q K) (hK : ∀ i2 L2 S2 h2, K i2 L2 S2 h2 → zc_W j p l e s m args below meth c D ad adV cA A Qf i2 L2 S2 h2) : zc_W j p l e s m args below meth c D ad adV cA A Qf i L S h := by
  intro H locs ls I
  simp only [zk_e, Bool.and_eq_true, decide_eq_true_eq, zk_s, zk_d, zk_t, zk_ri, zk_rl] at he
  obtain ⟨hpc, ⟨hd, hn⟩, ha⟩ := he
  obtain ⟨x, hx, hk⟩ := zx_lr_inv hA
  rw [hpc]
  refine lv_aload_n C.1 C.2.1 hd ha (I.2.1.1.at hx) ?_
  exact zc_next hK hn hk (I.push (I.2.1.2 _ _ hx))
theorem zs_iconst {n : Int} {pc len a b : Nat} {d : Int} {ts : List (Int × Nat)} (C : zc_C j p s m args meth c D ad adV cA A) (he : zk_e j i (pc, .iconst n, len, a, b, d, ts) = true) (hA : zx_act R (pc, .iconst n, len, a, b, d, ts) i L S h Q K) (hK : ∀ i2 L2 S2 h2, K i2 L2 S2 h2 → zc_W j p l e s m args below meth c D ad adV cA A Qf i2 L2 S2 h2) : zc_W j p l e s m args below meth c D ad adV cA A Qf i L S h := by
  intro H locs ls I
  simp only [zk_e, Bool.and_eq_true, decide_eq_true_eq, zk_s, zk_d, zk_t, zk_ri, zk_rl] at he
  obtain ⟨hpc, ⟨⟨hd, hn⟩, hv⟩, hr⟩ := he
  rw [hpc]
  refine lv_iconst (v := Int32.ofInt d) C.1 C.2.1 hd hv ?_
  exact zc_next hK hn hA (I.push (v := .inl d) hr)
theorem zs_bipush {n : Int} {pc len a b : Nat} {d : Int} {ts : List (Int × Nat)} (C : zc_C j p s m args meth c D ad adV cA A) (he : zk_e j i (pc, .bipush n, len, a, b, d, ts) = true) (hA : zx_act R (pc, .bipush n, len, a, b, d, ts) i L S h Q K) (hK : ∀ i2 L2 S2 h2, K i2 L2 S2 h2 → zc_W j p l e s m args below meth c D ad adV cA A Qf i2 L2 S2 h2) : zc_W j p l e s m args below meth c D ad adV cA A Qf i L S h := by
  intro H locs ls I
  simp only [zk_e, Bool.and_eq_true, decide_eq_true_eq, zk_s, zk_d, zk_t, zk_ri, zk_rl] at he
  obtain ⟨hpc, ⟨⟨hd, hn⟩, hv⟩, hr⟩ := he
  rw [hpc]
  refine lv_bipush (v := Int32.ofInt d) C.1 C.2.1 hd hv ?_
  exact zc_next hK hn hA (I.push (v := .inl d) hr)
theorem zs_sipush {n : Int} {pc len a b : Nat} {d : Int} {ts : List (Int × Nat)} (C : zc_C j p s m args meth c D ad adV cA A) (he : zk_e j i (pc, .sipush n, len, a, b, d, ts) = true) (hA : zx_act R (pc, .sipush n, len, a, b, d, ts) i L S h Q K) (hK : ∀ i2 L2 S2 h2, K i2 L2 S2 h2 → zc_W j p l e s m args below meth c D ad adV cA A Qf i2 L2 S2 h2) : zc_W j p l e s m args below meth c D ad adV cA A Qf i L S h := by
  intro H locs ls I
  simp only [zk_e, Bool.and_eq_true, decide_eq_true_eq, zk_s, zk_d, zk_t, zk_ri, zk_rl] at he
  obtain ⟨hpc, ⟨⟨hd, hn⟩, hv⟩, hr⟩ := he
  rw [hpc]
  refine lv_sipush (v := Int32.ofInt d) C.1 C.2.1 hd hv ?_
  exact zc_next hK hn hA (I.push (v := .inl d) hr)
theorem zs_lconst {n : Fin 2} {pc len a b : Nat} {d : Int} {ts : List (Int × Nat)} (C : zc_C j p s m args meth c D ad adV cA A) (he : zk_e j i (pc, .lconst n, len, a, b, d, ts) = true) (hA : zx_act R (pc, .lconst n, len, a, b, d, ts) i L S h Q K) (hK : ∀ i2 L2 S2 h2, K i2 L2 S2 h2 → zc_W j p l e s m args below meth c D ad adV cA A Qf i2 L2 S2 h2) : zc_W j p l e s m args below meth c D ad adV cA A Qf i L S h := by
  intro H locs ls I
  simp only [zk_e, Bool.and_eq_true, decide_eq_true_eq, zk_s, zk_d, zk_t, zk_ri, zk_rl] at he
  obtain ⟨hpc, ⟨⟨hd, hn⟩, hv⟩, hr⟩ := he
  rw [hpc]
  refine lv_lconst (v := Int64.ofInt d) C.1 C.2.1 hd hv ?_
  exact zc_next hK hn hA (I.push (v := .inr (.inl d)) hr)
theorem zs_ldc2_w {n : Nat} {pc len a b : Nat} {d : Int} {ts : List (Int × Nat)} (C : zc_C j p s m args meth c D ad adV cA A) (he : zk_e j i (pc, .ldc2_w n, len, a, b, d, ts) = true) (hA : zx_act R (pc, .ldc2_w n, len, a, b, d, ts) i L S h Q K) (hK : ∀ i2 L2 S2 h2, K i2 L2 S2 h2 → zc_W j p l e s m args below meth c D ad adV cA A Qf i2 L2 S2 h2) : zc_W j p l e s m args below meth c D ad adV cA A Qf i L S h := by
  intro H locs ls I
  simp only [zk_e, Bool.and_eq_true, decide_eq_true_eq, zk_s, zk_d, zk_t, zk_ri, zk_rl] at he
  obtain ⟨hpc, ⟨⟨hd, hn⟩, hv⟩, hr⟩ := he
  rw [hpc]
  refine lv_ldc2 (v := Int64.ofInt d) C.1 C.2.1 C.2.2.2.2.1 (C.word hv) hd ?_
  exact zc_next hK hn hA (I.push (v := .inr (.inl d)) hr)
theorem zs_ldc {n : Nat} {pc len a b : Nat} {d : Int} {ts : List (Int × Nat)} (C : zc_C j p s m args meth c D ad adV cA A) (he : zk_e j i (pc, .ldc n, len, a, b, d, ts) = true) (hA : zx_act R (pc, .ldc n, len, a, b, d, ts) i L S h Q K) (hK : ∀ i2 L2 S2 h2, K i2 L2 S2 h2 → zc_W j p l e s m args below meth c D ad adV cA A Qf i2 L2 S2 h2) : zc_W j p l e s m args below meth c D ad adV cA A Qf i L S h := by
  intro H locs ls I
  cases b with
  | zero =>
    simp only [zk_e, Bool.and_eq_true, decide_eq_true_eq, zk_s, zk_d, zk_t, zk_ri, zk_rl] at he
    obtain ⟨hpc, ⟨⟨hd, hn⟩, hv⟩, hr⟩ := he
    rw [hpc]
    refine lv_ldc (v := Int32.ofInt d) C.1 C.2.1 C.2.2.2.2.1 (C.word hv) hd ?_
    exact zc_next hK hn hA (I.push (v := .inl d) hr)
  | succ b =>
    simp only [zk_e, Bool.and_eq_true, decide_eq_true_eq, zk_s, zk_d, zk_t, zk_ri, zk_rl, zk_str, List.any_eq_true, beq_iff_eq] at he
    obtain ⟨hpc, ⟨hd, hn⟩, q, hq, ⟨h1, h2⟩, h3⟩ := he
    rw [hpc]
    subst h3
    have hR := C.2.2.2.2.2.2.2.2.1.2.1 q hq
    rw [h1, h2] at hR
    refine va_ldcS C.1 C.2.1 C.2.2.2.2.1 hR hd ?_
    exact zc_next hK hn hA (I.push (v := .inr (.inr _)) trivial)
theorem zs_ldc_w {n : Nat} {pc len a b : Nat} {d : Int} {ts : List (Int × Nat)} (C : zc_C j p s m args meth c D ad adV cA A) (he : zk_e j i (pc, .ldc_w n, len, a, b, d, ts) = true) (hA : zx_act R (pc, .ldc_w n, len, a, b, d, ts) i L S h Q K) (hK : ∀ i2 L2 S2 h2, K i2 L2 S2 h2 → zc_W j p l e s m args below meth c D ad adV cA A Qf i2 L2 S2 h2) : zc_W j p l e s m args below meth c D ad adV cA A Qf i L S h := by
  intro H locs ls I
  cases b with
  | zero =>
    simp only [zk_e, Bool.and_eq_true, decide_eq_true_eq, zk_s, zk_d, zk_t, zk_ri, zk_rl] at he
    obtain ⟨hpc, ⟨⟨hd, hn⟩, hv⟩, hr⟩ := he
    rw [hpc]
    refine lv_ldcw (v := Int32.ofInt d) C.1 C.2.1 C.2.2.2.2.1 (C.word hv) hd ?_
    exact zc_next hK hn hA (I.push (v := .inl d) hr)
  | succ b =>
    simp only [zk_e, Bool.and_eq_true, decide_eq_true_eq, zk_s, zk_d, zk_t, zk_ri, zk_rl, zk_str, List.any_eq_true, beq_iff_eq] at he
    obtain ⟨hpc, ⟨hd, hn⟩, q, hq, ⟨h1, h2⟩, h3⟩ := he
    rw [hpc]
    subst h3
    have hR := C.2.2.2.2.2.2.2.2.1.2.1 q hq
    rw [h1, h2] at hR
    refine zc_ldcwS C.1 C.2.1 C.2.2.2.2.1 hR hd ?_
    exact zc_next hK hn hA (I.push (v := .inr (.inr _)) trivial)
theorem zs_istore {n : Nat} {pc len a b : Nat} {d : Int} {ts : List (Int × Nat)} (C : zc_C j p s m args meth c D ad adV cA A) (he : zk_e j i (pc, .istore n, len, a, b, d, ts) = true) (hA : zx_act R (pc, .istore n, len, a, b, d, ts) i L S h Q K) (hK : ∀ i2 L2 S2 h2, K i2 L2 S2 h2 → zc_W j p l e s m args below meth c D ad adV cA A Qf i2 L2 S2 h2) : zc_W j p l e s m args below meth c D ad adV cA A Qf i L S h := by
  intro H locs ls I
  simp only [zk_e, Bool.and_eq_true, decide_eq_true_eq, zk_s, zk_d, zk_t, zk_ri, zk_rl] at he
  obtain ⟨hpc, ⟨⟨hd, hn⟩, ha⟩, hl⟩ := he
  obtain ⟨x, S2, rfl, hk⟩ := zx_p1_inv hA
  rw [hpc]
  subst ha
  obtain ⟨lst, g1, g2⟩ := I.2.1.1
  refine lv_istore C.1 C.2.1 hd g1 hl rfl (fun ls2 g3 => ?_)
  exact zc_next hK hn hk ⟨I.1, ⟨⟨_, g3, zc_se_in g2 _ (.inl x)⟩, zc_se_ok I.2.1.2 (I.top)⟩, I.rest.2.2.1, I.2.2.2⟩
theorem zs_istore_n {n : Fin 4} {pc len a b : Nat} {d : Int} {ts : List (Int × Nat)} (C : zc_C j p s m args meth c D ad adV cA A) (he : zk_e j i (pc, .istore_n n, len, a, b, d, ts) = true) (hA : zx_act R (pc, .istore_n n, len, a, b, d, ts) i L S h Q K) (hK : ∀ i2 L2 S2 h2, K i2 L2 S2 h2 → zc_W j p l e s m args below meth c D ad adV cA A Qf i2 L2 S2 h2) : zc_W j p l e s m args below meth c D ad adV cA A Qf i L S h := by
  intro H locs ls I
  simp only [zk_e, Bool.and_eq_true, decide_eq_true_eq, zk_s, zk_d, zk_t, zk_ri, zk_rl] at he
  obtain ⟨hpc, ⟨⟨hd, hn⟩, ha⟩, hl⟩ := he
  obtain ⟨x, S2, rfl, hk⟩ := zx_p1_inv hA
  rw [hpc]
  obtain ⟨lst, g1, g2⟩ := I.2.1.1
  refine lv_istore_n C.1 C.2.1 hd ha g1 hl rfl (fun ls2 g3 => ?_)
  exact zc_next hK hn hk ⟨I.1, ⟨⟨_, g3, zc_se_in g2 a (.inl x)⟩, zc_se_ok I.2.1.2 (I.top)⟩, I.rest.2.2.1, I.2.2.2⟩
theorem zs_astore {n : Nat} {pc len a b : Nat} {d : Int} {ts : List (Int × Nat)} (C : zc_C j p s m args meth c D ad adV cA A) (he : zk_e j i (pc, .astore n, len, a, b, d, ts) = true) (hA : zx_act R (pc, .astore n, len, a, b, d, ts) i L S h Q K) (hK : ∀ i2 L2 S2 h2, K i2 L2 S2 h2 → zc_W j p l e s m args below meth c D ad adV cA A Qf i2 L2 S2 h2) : zc_W j p l e s m args below meth c D ad adV cA A Qf i L S h := by
  intro H locs ls I
  simp only [zk_e, Bool.and_eq_true, decide_eq_true_eq, zk_s, zk_d, zk_t, zk_ri, zk_rl] at he
  obtain ⟨hpc, ⟨⟨hd, hn⟩, ha⟩, hl⟩ := he
  obtain ⟨x, S2, rfl, hk⟩ := zx_pr_inv hA
  rw [hpc]
  subst ha
  obtain ⟨lst, g1, g2⟩ := I.2.1.1
  refine lv_astore C.1 C.2.1 hd g1 hl rfl (fun ls2 g3 => ?_)
  exact zc_next hK hn hk ⟨I.1, ⟨⟨_, g3, zc_se_in g2 _ (.inr (.inr x))⟩, zc_se_ok I.2.1.2 (I.top)⟩, I.rest.2.2.1, I.2.2.2⟩
theorem zs_astore_n {n : Fin 4} {pc len a b : Nat} {d : Int} {ts : List (Int × Nat)} (C : zc_C j p s m args meth c D ad adV cA A) (he : zk_e j i (pc, .astore_n n, len, a, b, d, ts) = true) (hA : zx_act R (pc, .astore_n n, len, a, b, d, ts) i L S h Q K) (hK : ∀ i2 L2 S2 h2, K i2 L2 S2 h2 → zc_W j p l e s m args below meth c D ad adV cA A Qf i2 L2 S2 h2) : zc_W j p l e s m args below meth c D ad adV cA A Qf i L S h := by
  intro H locs ls I
  simp only [zk_e, Bool.and_eq_true, decide_eq_true_eq, zk_s, zk_d, zk_t, zk_ri, zk_rl] at he
  obtain ⟨hpc, ⟨⟨hd, hn⟩, ha⟩, hl⟩ := he
  obtain ⟨x, S2, rfl, hk⟩ := zx_pr_inv hA
  rw [hpc]
  obtain ⟨lst, g1, g2⟩ := I.2.1.1
  refine lv_astore_n C.1 C.2.1 hd ha g1 hl rfl (fun ls2 g3 => ?_)
  exact zc_next hK hn hk ⟨I.1, ⟨⟨_, g3, zc_se_in g2 a (.inr (.inr x))⟩, zc_se_ok I.2.1.2 (I.top)⟩, I.rest.2.2.1, I.2.2.2⟩
theorem zs_lstore {n : Nat} {pc len a b : Nat} {d : Int} {ts : List (Int × Nat)} (C : zc_C j p s m args meth c D ad adV cA A) (he : zk_e j i (pc, .lstore n, len, a, b, d, ts) = true) (hA : zx_act R (pc, .lstore n, len, a, b, d, ts) i L S h Q K) (hK : ∀ i2 L2 S2 h2, K i2 L2 S2 h2 → zc_W j p l e s m args below meth c D ad adV cA A Qf i2 L2 S2 h2) : zc_W j p l e s m args below meth c D ad adV cA A Qf i L S h := by
  intro H locs ls I
  simp only [zk_e, Bool.and_eq_true, decide_eq_true_eq, zk_s, zk_d, zk_t, zk_ri, zk_rl] at he
  obtain ⟨hpc, ⟨⟨hd, hn⟩, ha⟩, hl⟩ := he
  obtain ⟨x, S2, rfl, hk⟩ := zx_pl_inv (k := fun x S => K (i + 1) (zx_cl (zx_se L a (.inr (.inl x))) (a + 1)) S h) hA
  rw [hpc]
  subst ha
  obtain ⟨lst, g1, g2⟩ := I.2.1.1
  refine lv_lstore C.1 C.2.1 hd g1 hl rfl (fun ls2 g3 => ?_)
  exact zc_next hK hn hk ⟨I.1, ⟨⟨_, g3, zc_sl_in g2 _ x⟩, zc_cl_ok (zc_se_ok I.2.1.2 (I.top))⟩, I.rest.2.2.1, I.2.2.2⟩
theorem zs_iinc {n : Nat} {v : Int} {pc len a b : Nat} {d : Int} {ts : List (Int × Nat)} (C : zc_C j p s m args meth c D ad adV cA A) (he : zk_e j i (pc, .iinc n v, len, a, b, d, ts) = true) (hA : zx_act R (pc, .iinc n v, len, a, b, d, ts) i L S h Q K) (hK : ∀ i2 L2 S2 h2, K i2 L2 S2 h2 → zc_W j p l e s m args below meth c D ad adV cA A Qf i2 L2 S2 h2) : zc_W j p l e s m args below meth c D ad adV cA A Qf i L S h := by
  intro H locs ls I
  simp only [zk_e, Bool.and_eq_true, decide_eq_true_eq, zk_s, zk_d, zk_t, zk_ri, zk_rl] at he
  obtain ⟨hpc, ⟨⟨⟨hd, hn⟩, ha⟩, hv⟩, hl⟩ := he
  obtain ⟨x, hx, hr, hk⟩ := zx_li_inv hA
  rw [hpc]
  subst ha
  subst hv
  obtain ⟨lst, g1, g2⟩ := I.2.1.1
  obtain ⟨k, hk2⟩ := List.mem_iff_getElem?.mp (g2 _ _ hx)
  refine lv_iinc (v := Int32.ofInt (x + v)) C.1 C.2.1 hd g1 hk2 (Int32.ofInt_add x v).symm hl rfl (fun ls2 g3 => ?_)
  exact zc_next hK hn hk ⟨I.1, ⟨⟨_, g3, zc_se_in g2 _ (.inl (x + v))⟩, zc_se_ok I.2.1.2 (show zc_ok (.inl _) from hr)⟩, I.2.2.1, I.2.2.2⟩
theorem zs_iadd  {pc len a b : Nat} {d : Int} {ts : List (Int × Nat)} (C : zc_C j p s m args meth c D ad adV cA A) (he : zk_e j i (pc, .iadd, len, a, b, d, ts) = true) (hA : zx_act R (pc, .iadd, len, a, b, d, ts) i L S h Q K) (hK : ∀ i2 L2 S2 h2, K i2 L2 S2 h2 → zc_W j p l e s m args below meth c D ad adV cA A Qf i2 L2 S2 h2) : zc_W j p l e s m args below meth c D ad adV cA A Qf i L S h := by
  intro H locs ls I
  simp only [zk_e, Bool.and_eq_true, decide_eq_true_eq, zk_s, zk_d, zk_t, zk_ri, zk_rl] at he
  obtain ⟨hpc, hd, hn⟩ := he
  obtain ⟨x, y, S2, rfl, hr, hk⟩ := zx_p2_inv hA
  rw [hpc]
  have ee : Int32.ofInt (x + y) = Int32.ofInt x + Int32.ofInt y := Int32.ofInt_add x y
  refine lv_iadd C.1 C.2.1 hd ?_
  rw [← ee]
  exact zc_next hK hn hk (I.rest.rest.push (v := .inl _) hr)
theorem zs_isub  {pc len a b : Nat} {d : Int} {ts : List (Int × Nat)} (C : zc_C j p s m args meth c D ad adV cA A) (he : zk_e j i (pc, .isub, len, a, b, d, ts) = true) (hA : zx_act R (pc, .isub, len, a, b, d, ts) i L S h Q K) (hK : ∀ i2 L2 S2 h2, K i2 L2 S2 h2 → zc_W j p l e s m args below meth c D ad adV cA A Qf i2 L2 S2 h2) : zc_W j p l e s m args below meth c D ad adV cA A Qf i L S h := by
  intro H locs ls I
  simp only [zk_e, Bool.and_eq_true, decide_eq_true_eq, zk_s, zk_d, zk_t, zk_ri, zk_rl] at he
  obtain ⟨hpc, hd, hn⟩ := he
  obtain ⟨x, y, S2, rfl, hr, hk⟩ := zx_p2_inv hA
  rw [hpc]
  have ee : Int32.ofInt (x - y) = Int32.ofInt x - Int32.ofInt y := Int32.ofInt_sub x y
  refine lv_isub C.1 C.2.1 hd ?_
  rw [← ee]
  exact zc_next hK hn hk (I.rest.rest.push (v := .inl _) hr)
theorem zs_imul  {pc len a b : Nat} {d : Int} {ts : List (Int × Nat)} (C : zc_C j p s m args meth c D ad adV cA A) (he : zk_e j i (pc, .imul, len, a, b, d, ts) = true) (hA : zx_act R (pc, .imul, len, a, b, d, ts) i L S h Q K) (hK : ∀ i2 L2 S2 h2, K i2 L2 S2 h2 → zc_W j p l e s m args below meth c D ad adV cA A Qf i2 L2 S2 h2) : zc_W j p l e s m args below meth c D ad adV cA A Qf i L S h := by
  intro H locs ls I
  simp only [zk_e, Bool.and_eq_true, decide_eq_true_eq, zk_s, zk_d, zk_t, zk_ri, zk_rl] at he
  obtain ⟨hpc, hd, hn⟩ := he
  obtain ⟨x, y, S2, rfl, hr, hk⟩ := zx_p2_inv hA
  rw [hpc]
  have ee : Int32.ofInt (x * y) = Int32.ofInt x * Int32.ofInt y := Int32.ofInt_mul x y
  refine lv_imul C.1 C.2.1 hd ?_
  rw [← ee]
  exact zc_next hK hn hk (I.rest.rest.push (v := .inl _) hr)
theorem zs_fadd  {pc len a b : Nat} {d : Int} {ts : List (Int × Nat)} (C : zc_C j p s m args meth c D ad adV cA A) (he : zk_e j i (pc, .fadd, len, a, b, d, ts) = true) (hA : zx_act R (pc, .fadd, len, a, b, d, ts) i L S h Q K) (hK : ∀ i2 L2 S2 h2, K i2 L2 S2 h2 → zc_W j p l e s m args below meth c D ad adV cA A Qf i2 L2 S2 h2) : zc_W j p l e s m args below meth c D ad adV cA A Qf i L S h := by
  intro H locs ls I
  simp only [zk_e, Bool.and_eq_true, decide_eq_true_eq, zk_s, zk_d, zk_t, zk_ri, zk_rl] at he
  obtain ⟨hpc, hd, hn⟩ := he
  obtain ⟨x, y, S2, rfl, hk⟩ := zx_p2_inv hA
  rw [hpc]
  have ee : Int32.ofInt (zx_wr (x + y)) = Int32.ofInt x + Int32.ofInt y := zc_add x y
  refine lv_iadd C.1 C.2.1 hd ?_
  rw [← ee]
  exact zc_next hK hn hk (I.rest.rest.push (v := .inl _) (zc_ri _))
theorem zs_fsub  {pc len a b : Nat} {d : Int} {ts : List (Int × Nat)} (C : zc_C j p s m args meth c D ad adV cA A) (he : zk_e j i (pc, .fsub, len, a, b, d, ts) = true) (hA : zx_act R (pc, .fsub, len, a, b, d, ts) i L S h Q K) (hK : ∀ i2 L2 S2 h2, K i2 L2 S2 h2 → zc_W j p l e s m args below meth c D ad adV cA A Qf i2 L2 S2 h2) : zc_W j p l e s m args below meth c D ad adV cA A Qf i L S h := by
  intro H locs ls I
  simp only [zk_e, Bool.and_eq_true, decide_eq_true_eq, zk_s, zk_d, zk_t, zk_ri, zk_rl] at he
  obtain ⟨hpc, hd, hn⟩ := he
  obtain ⟨x, y, S2, rfl, hk⟩ := zx_p2_inv hA
  rw [hpc]
  have ee : Int32.ofInt (zx_wr (x - y)) = Int32.ofInt x - Int32.ofInt y := zc_sub x y
  refine lv_isub C.1 C.2.1 hd ?_
  rw [← ee]
  exact zc_next hK hn hk (I.rest.rest.push (v := .inl _) (zc_ri _))
theorem zs_fmul  {pc len a b : Nat} {d : Int} {ts : List (Int × Nat)} (C : zc_C j p s m args meth c D ad adV cA A) (he : zk_e j i (pc, .fmul, len, a, b, d, ts) = true) (hA : zx_act R (pc, .fmul, len, a, b, d, ts) i L S h Q K) (hK : ∀ i2 L2 S2 h2, K i2 L2 S2 h2 → zc_W j p l e s m args below meth c D ad adV cA A Qf i2 L2 S2 h2) : zc_W j p l e s m args below meth c D ad adV cA A Qf i L S h := by
  intro H locs ls I
  simp only [zk_e, Bool.and_eq_true, decide_eq_true_eq, zk_s, zk_d, zk_t, zk_ri, zk_rl] at he
  obtain ⟨hpc, hd, hn⟩ := he
  obtain ⟨x, y, S2, rfl, hk⟩ := zx_p2_inv hA
  rw [hpc]
  have ee : Int32.ofInt (zx_wr (x * y)) = Int32.ofInt x * Int32.ofInt y := zc_mul x y
  refine lv_imul C.1 C.2.1 hd ?_
  rw [← ee]
  exact zc_next hK hn hk (I.rest.rest.push (v := .inl _) (zc_ri _))
theorem zs_iand  {pc len a b : Nat} {d : Int} {ts : List (Int × Nat)} (C : zc_C j p s m args meth c D ad adV cA A) (he : zk_e j i (pc, .iand, len, a, b, d, ts) = true) (hA : zx_act R (pc, .iand, len, a, b, d, ts) i L S h Q K) (hK : ∀ i2 L2 S2 h2, K i2 L2 S2 h2 → zc_W j p l e s m args below meth c D ad adV cA A Qf i2 L2 S2 h2) : zc_W j p l e s m args below meth c D ad adV cA A Qf i L S h := by
  intro H locs ls I
  simp only [zk_e, Bool.and_eq_true, decide_eq_true_eq, zk_s, zk_d, zk_t, zk_ri, zk_rl] at he
  obtain ⟨hpc, hd, hn⟩ := he
  obtain ⟨x, y, S2, rfl, hk⟩ := zx_p2_inv hA
  rw [hpc]
  have ee : Int32.ofInt (zx_and x y) = Int32.ofInt x &&& Int32.ofInt y := zc_oi _
  refine lv_iand C.1 C.2.1 hd ?_
  rw [← ee]
  exact zc_next hK hn hk (I.rest.rest.push (v := .inl _) (zc_ri _))
theorem zs_ior  {pc len a b : Nat} {d : Int} {ts : List (Int × Nat)} (C : zc_C j p s m args meth c D ad adV cA A) (he : zk_e j i (pc, .ior, len, a, b, d, ts) = true) (hA : zx_act R (pc, .ior, len, a, b, d, ts) i L S h Q K) (hK : ∀ i2 L2 S2 h2, K i2 L2 S2 h2 → zc_W j p l e s m args below meth c D ad adV cA A Qf i2 L2 S2 h2) : zc_W j p l e s m args below meth c D ad adV cA A Qf i L S h := by
  intro H locs ls I
  simp only [zk_e, Bool.and_eq_true, decide_eq_true_eq, zk_s, zk_d, zk_t, zk_ri, zk_rl] at he
  obtain ⟨hpc, hd, hn⟩ := he
  obtain ⟨x, y, S2, rfl, hk⟩ := zx_p2_inv hA
  rw [hpc]
  have ee : Int32.ofInt (zx_or x y) = Int32.ofInt x ||| Int32.ofInt y := zc_oi _
  refine lv_ior C.1 C.2.1 hd ?_
  rw [← ee]
  exact zc_next hK hn hk (I.rest.rest.push (v := .inl _) (zc_ri _))
theorem zs_ixor  {pc len a b : Nat} {d : Int} {ts : List (Int × Nat)} (C : zc_C j p s m args meth c D ad adV cA A) (he : zk_e j i (pc, .ixor, len, a, b, d, ts) = true) (hA : zx_act R (pc, .ixor, len, a, b, d, ts) i L S h Q K) (hK : ∀ i2 L2 S2 h2, K i2 L2 S2 h2 → zc_W j p l e s m args below meth c D ad adV cA A Qf i2 L2 S2 h2) : zc_W j p l e s m args below meth c D ad adV cA A Qf i L S h := by
  intro H locs ls I
  simp only [zk_e, Bool.and_eq_true, decide_eq_true_eq, zk_s, zk_d, zk_t, zk_ri, zk_rl] at he
  obtain ⟨hpc, hd, hn⟩ := he
  obtain ⟨x, y, S2, rfl, hk⟩ := zx_p2_inv hA
  rw [hpc]
  have ee : Int32.ofInt (zx_xor x y) = Int32.ofInt x ^^^ Int32.ofInt y := zc_oi _
  refine lv_ixor C.1 C.2.1 hd ?_
  rw [← ee]
  exact zc_next hK hn hk (I.rest.rest.push (v := .inl _) (zc_ri _))
theorem zs_ishl  {pc len a b : Nat} {d : Int} {ts : List (Int × Nat)} (C : zc_C j p s m args meth c D ad adV cA A) (he : zk_e j i (pc, .ishl, len, a, b, d, ts) = true) (hA : zx_act R (pc, .ishl, len, a, b, d, ts) i L S h Q K) (hK : ∀ i2 L2 S2 h2, K i2 L2 S2 h2 → zc_W j p l e s m args below meth c D ad adV cA A Qf i2 L2 S2 h2) : zc_W j p l e s m args below meth c D ad adV cA A Qf i L S h := by
  intro H locs ls I
  simp only [zk_e, Bool.and_eq_true, decide_eq_true_eq, zk_s, zk_d, zk_t, zk_ri, zk_rl] at he
  obtain ⟨hpc, hd, hn⟩ := he
  obtain ⟨x, y, S2, rfl, hk⟩ := zx_p2_inv hA
  rw [hpc]
  have ee : Int32.ofInt (zx_shl x y) = Int32.ofInt x <<< (Int32.ofInt y &&& 31) := zc_oi _
  refine lv_ishl C.1 C.2.1 hd ?_
  rw [← ee]
  exact zc_next hK hn hk (I.rest.rest.push (v := .inl _) (zc_ri _))
theorem zs_ishr  {pc len a b : Nat} {d : Int} {ts : List (Int × Nat)} (C : zc_C j p s m args meth c D ad adV cA A) (he : zk_e j i (pc, .ishr, len, a, b, d, ts) = true) (hA : zx_act R (pc, .ishr, len, a, b, d, ts) i L S h Q K) (hK : ∀ i2 L2 S2 h2, K i2 L2 S2 h2 → zc_W j p l e s m args below meth c D ad adV cA A Qf i2 L2 S2 h2) : zc_W j p l e s m args below meth c D ad adV cA A Qf i L S h := by
  intro H locs ls I
  simp only [zk_e, Bool.and_eq_true, decide_eq_true_eq, zk_s, zk_d, zk_t, zk_ri, zk_rl] at he
  obtain ⟨hpc, hd, hn⟩ := he
  obtain ⟨x, y, S2, rfl, hk⟩ := zx_p2_inv hA
  rw [hpc]
  have ee : Int32.ofInt (zx_shr x y) = Int32.ofInt x >>> (Int32.ofInt y &&& 31) := zc_oi _
  refine lv_ishr C.1 C.2.1 hd ?_
  rw [← ee]
  exact zc_next hK hn hk (I.rest.rest.push (v := .inl _) (zc_ri _))
theorem zs_iushr  {pc len a b : Nat} {d : Int} {ts : List (Int × Nat)} (C : zc_C j p s m args meth c D ad adV cA A) (he : zk_e j i (pc, .iushr, len, a, b, d, ts) = true) (hA : zx_act R (pc, .iushr, len, a, b, d, ts) i L S h Q K) (hK : ∀ i2 L2 S2 h2, K i2 L2 S2 h2 → zc_W j p l e s m args below meth c D ad adV cA A Qf i2 L2 S2 h2) : zc_W j p l e s m args below meth c D ad adV cA A Qf i L S h := by
  intro H locs ls I
  simp only [zk_e, Bool.and_eq_true, decide_eq_true_eq, zk_s, zk_d, zk_t, zk_ri, zk_rl] at he
  obtain ⟨hpc, hd, hn⟩ := he
  obtain ⟨x, y, S2, rfl, hk⟩ := zx_p2_inv hA
  rw [hpc]
  refine lv_iushr (v := Int32.ofInt (zx_ushr x y)) C.1 C.2.1 hd (zc_oi _).symm ?_
  exact zc_next hK hn hk (I.rest.rest.push (v := .inl _) (zc_ri _))
theorem zs_idiv  {pc len a b : Nat} {d : Int} {ts : List (Int × Nat)} (C : zc_C j p s m args meth c D ad adV cA A) (he : zk_e j i (pc, .idiv, len, a, b, d, ts) = true) (hA : zx_act R (pc, .idiv, len, a, b, d, ts) i L S h Q K) (hK : ∀ i2 L2 S2 h2, K i2 L2 S2 h2 → zc_W j p l e s m args below meth c D ad adV cA A Qf i2 L2 S2 h2) : zc_W j p l e s m args below meth c D ad adV cA A Qf i L S h := by
  intro H locs ls I
  simp only [zk_e, Bool.and_eq_true, decide_eq_true_eq, zk_s, zk_d, zk_t, zk_ri, zk_rl] at he
  obtain ⟨hpc, hd, hn⟩ := he
  obtain ⟨x, y, S2, rfl, ⟨h0, h1⟩, hk⟩ := zx_p2_inv hA
  rw [hpc]
  have hy : zc_i y := I.top
  have hx : zc_i x := I.rest.top
  refine lv_idiv C.1 C.2.1 hd (fun z => by have := (zc_eq0 hy).mp z; omega) ?_
  rw [(zc_div hx hy h0 h1).1]
  exact zc_next hK hn hk (I.rest.rest.push (v := .inl _) (zc_div hx hy h0 h1).2)
theorem zs_irem  {pc len a b : Nat} {d : Int} {ts : List (Int × Nat)} (C : zc_C j p s m args meth c D ad adV cA A) (he : zk_e j i (pc, .irem, len, a, b, d, ts) = true) (hA : zx_act R (pc, .irem, len, a, b, d, ts) i L S h Q K) (hK : ∀ i2 L2 S2 h2, K i2 L2 S2 h2 → zc_W j p l e s m args below meth c D ad adV cA A Qf i2 L2 S2 h2) : zc_W j p l e s m args below meth c D ad adV cA A Qf i L S h := by
  intro H locs ls I
  simp only [zk_e, Bool.and_eq_true, decide_eq_true_eq, zk_s, zk_d, zk_t, zk_ri, zk_rl] at he
  obtain ⟨hpc, hd, hn⟩ := he
  obtain ⟨x, y, S2, rfl, ⟨h0, h1⟩, hk⟩ := zx_p2_inv hA
  rw [hpc]
  have hy : zc_i y := I.top
  have hx : zc_i x := I.rest.top
  refine lv_irem C.1 C.2.1 hd (fun z => by have := (zc_eq0 hy).mp z; omega) ?_
  rw [(zc_rem hx hy h0 h1).1]
  exact zc_next hK hn hk (I.rest.rest.push (v := .inl _) (zc_rem hx hy h0 h1).2)
theorem zs_i2b  {pc len a b : Nat} {d : Int} {ts : List (Int × Nat)} (C : zc_C j p s m args meth c D ad adV cA A) (he : zk_e j i (pc, .i2b, len, a, b, d, ts) = true) (hA : zx_act R (pc, .i2b, len, a, b, d, ts) i L S h Q K) (hK : ∀ i2 L2 S2 h2, K i2 L2 S2 h2 → zc_W j p l e s m args below meth c D ad adV cA A Qf i2 L2 S2 h2) : zc_W j p l e s m args below meth c D ad adV cA A Qf i L S h := by
  intro H locs ls I
  simp only [zk_e, Bool.and_eq_true, decide_eq_true_eq, zk_s, zk_d, zk_t, zk_ri, zk_rl] at he
  obtain ⟨hpc, hd, hn⟩ := he
  obtain ⟨x, S2, rfl, h0, hk⟩ := zx_p1_inv hA
  rw [hpc]
  refine lv_i2b (v := Int32.ofInt x) C.1 C.2.1 hd (zc_byte h0) ?_
  exact zc_next hK hn hk I
theorem zs_d2i  {pc len a b : Nat} {d : Int} {ts : List (Int × Nat)} (C : zc_C j p s m args meth c D ad adV cA A) (he : zk_e j i (pc, .d2i, len, a, b, d, ts) = true) (hA : zx_act R (pc, .d2i, len, a, b, d, ts) i L S h Q K) (hK : ∀ i2 L2 S2 h2, K i2 L2 S2 h2 → zc_W j p l e s m args below meth c D ad adV cA A Qf i2 L2 S2 h2) : zc_W j p l e s m args below meth c D ad adV cA A Qf i L S h := by
  intro H locs ls I
  simp only [zk_e, Bool.and_eq_true, decide_eq_true_eq, zk_s, zk_d, zk_t, zk_ri, zk_rl] at he
  obtain ⟨hpc, hd, hn⟩ := he
  obtain ⟨x, S2, rfl, hk⟩ := zx_p1_inv hA
  rw [hpc]
  refine lv_i2b (v := Int32.ofInt (zx_b x)) C.1 C.2.1 hd (zc_oi _).symm ?_
  exact zc_next hK hn hk (I.rest.push (v := .inl _) (zc_ri _))
theorem zs_i2s  {pc len a b : Nat} {d : Int} {ts : List (Int × Nat)} (C : zc_C j p s m args meth c D ad adV cA A) (he : zk_e j i (pc, .i2s, len, a, b, d, ts) = true) (hA : zx_act R (pc, .i2s, len, a, b, d, ts) i L S h Q K) (hK : ∀ i2 L2 S2 h2, K i2 L2 S2 h2 → zc_W j p l e s m args below meth c D ad adV cA A Qf i2 L2 S2 h2) : zc_W j p l e s m args below meth c D ad adV cA A Qf i L S h := by
  intro H locs ls I
  simp only [zk_e, Bool.and_eq_true, decide_eq_true_eq, zk_s, zk_d, zk_t, zk_ri, zk_rl] at he
  obtain ⟨hpc, hd, hn⟩ := he
  obtain ⟨x, S2, rfl, hk⟩ := zx_p1_inv hA
  rw [hpc]
  refine lv_i2s (v := Int32.ofInt (zx_s x)) C.1 C.2.1 hd (zc_oi _).symm ?_
  exact zc_next hK hn hk (I.rest.push (v := .inl _) (zc_ri _))
theorem zs_i2l  {pc len a b : Nat} {d : Int} {ts : List (Int × Nat)} (C : zc_C j p s m args meth c D ad adV cA A) (he : zk_e j i (pc, .i2l, len, a, b, d, ts) = true) (hA : zx_act R (pc, .i2l, len, a, b, d, ts) i L S h Q K) (hK : ∀ i2 L2 S2 h2, K i2 L2 S2 h2 → zc_W j p l e s m args below meth c D ad adV cA A Qf i2 L2 S2 h2) : zc_W j p l e s m args below meth c D ad adV cA A Qf i L S h := by
  intro H locs ls I
  simp only [zk_e, Bool.and_eq_true, decide_eq_true_eq, zk_s, zk_d, zk_t, zk_ri, zk_rl] at he
  obtain ⟨hpc, hd, hn⟩ := he
  obtain ⟨x, S2, rfl, hk⟩ := zx_p1_inv hA
  rw [hpc]
  refine lv_i2l (v := Int64.ofInt x) C.1 C.2.1 hd (zc_i2l (I.top)) ?_
  exact zc_next hK hn hk (I.rest.push (v := .inr (.inl x)) (zc_il (I.top)))
theorem zs_l2i  {pc len a b : Nat} {d : Int} {ts : List (Int × Nat)} (C : zc_C j p s m args meth c D ad adV cA A) (he : zk_e j i (pc, .l2i, len, a, b, d, ts) = true) (hA : zx_act R (pc, .l2i, len, a, b, d, ts) i L S h Q K) (hK : ∀ i2 L2 S2 h2, K i2 L2 S2 h2 → zc_W j p l e s m args below meth c D ad adV cA A Qf i2 L2 S2 h2) : zc_W j p l e s m args below meth c D ad adV cA A Qf i L S h := by
  intro H locs ls I
  simp only [zk_e, Bool.and_eq_true, decide_eq_true_eq, zk_s, zk_d, zk_t, zk_ri, zk_rl] at he
  obtain ⟨hpc, hd, hn⟩ := he
  obtain ⟨x, S2, rfl, hk⟩ := zx_pl_inv (k := fun x S => K (i + 1) L (.inl (zx_wr x) :: S) h) hA
  rw [hpc]
  refine lv_l2i (v := Int32.ofInt (zx_wr x)) C.1 C.2.1 hd (zc_l2i (I.top)) ?_
  exact zc_next hK hn hk (I.rest.push (v := .inl _) (zc_ri _))
theorem zs_ladd  {pc len a b : Nat} {d : Int} {ts : List (Int × Nat)} (C : zc_C j p s m args meth c D ad adV cA A) (he : zk_e j i (pc, .ladd, len, a, b, d, ts) = true) (hA : zx_act R (pc, .ladd, len, a, b, d, ts) i L S h Q K) (hK : ∀ i2 L2 S2 h2, K i2 L2 S2 h2 → zc_W j p l e s m args below meth c D ad adV cA A Qf i2 L2 S2 h2) : zc_W j p l e s m args below meth c D ad adV cA A Qf i L S h := by
  intro H locs ls I
  simp only [zk_e, Bool.and_eq_true, decide_eq_true_eq, zk_s, zk_d, zk_t, zk_ri, zk_rl] at he
  obtain ⟨hpc, hd, hn⟩ := he
  obtain ⟨x, y, S2, rfl, hk⟩ := zx_pl2_inv (k := fun x y S => K (i + 1) L (.inr (.inl (zx_wl (x + y))) :: S) h) hA
  rw [hpc]
  refine lv_ladd C.1 C.2.1 hd ?_
  rw [← zc_addl]
  exact zc_next hK hn hk (I.rest.rest.push (v := .inr (.inl _)) (zc_rl _))
theorem zs_lcmp  {pc len a b : Nat} {d : Int} {ts : List (Int × Nat)} (C : zc_C j p s m args meth c D ad adV cA A) (he : zk_e j i (pc, .lcmp, len, a, b, d, ts) = true) (hA : zx_act R (pc, .lcmp, len, a, b, d, ts) i L S h Q K) (hK : ∀ i2 L2 S2 h2, K i2 L2 S2 h2 → zc_W j p l e s m args below meth c D ad adV cA A Qf i2 L2 S2 h2) : zc_W j p l e s m args below meth c D ad adV cA A Qf i L S h := by
  intro H locs ls I
  simp only [zk_e, Bool.and_eq_true, decide_eq_true_eq, zk_s, zk_d, zk_t, zk_ri, zk_rl] at he
  obtain ⟨hpc, hd, hn⟩ := he
  obtain ⟨x, y, S2, rfl, hk⟩ := zx_pl2_inv (k := fun x y S => K (i + 1) L (.inl (zx_lcmp x y) :: S) h) hA
  rw [hpc]
  refine W.lcmp C.1 C.2.1 hd ?_
  rw [zc_lcmp (I.rest.top) (I.top)]
  exact zc_next hK hn hk (I.rest.rest.push (v := .inl _) (zc_lcmp_i x y))
theorem zs_dup  {pc len a b : Nat} {d : Int} {ts : List (Int × Nat)} (C : zc_C j p s m args meth c D ad adV cA A) (he : zk_e j i (pc, .dup, len, a, b, d, ts) = true) (hA : zx_act R (pc, .dup, len, a, b, d, ts) i L S h Q K) (hK : ∀ i2 L2 S2 h2, K i2 L2 S2 h2 → zc_W j p l e s m args below meth c D ad adV cA A Qf i2 L2 S2 h2) : zc_W j p l e s m args below meth c D ad adV cA A Qf i L S h := by
  intro H locs ls I
  simp only [zk_e, Bool.and_eq_true, decide_eq_true_eq, zk_s, zk_d, zk_t, zk_ri, zk_rl] at he
  obtain ⟨hpc, hd, hn⟩ := he
  rcases S with _ | ⟨(x | (x | x)), S2⟩
  · exact False.elim hA
  · rw [hpc]
    refine lv_dup C.1 C.2.1 hd rfl ?_
    exact zc_next hK hn hA (I.push (v := .inl x) I.top)
  · exact False.elim hA
  · rw [hpc]
    refine lv_dup C.1 C.2.1 hd rfl ?_
    exact zc_next hK hn hA (I.push (v := .inr (.inr x)) I.top)
theorem zs_dup2  {pc len a b : Nat} {d : Int} {ts : List (Int × Nat)} (C : zc_C j p s m args meth c D ad adV cA A) (he : zk_e j i (pc, .dup2, len, a, b, d, ts) = true) (hA : zx_act R (pc, .dup2, len, a, b, d, ts) i L S h Q K) (hK : ∀ i2 L2 S2 h2, K i2 L2 S2 h2 → zc_W j p l e s m args below meth c D ad adV cA A Qf i2 L2 S2 h2) : zc_W j p l e s m args below meth c D ad adV cA A Qf i L S h := by
  intro H locs ls I
  simp only [zk_e, Bool.and_eq_true, decide_eq_true_eq, zk_s, zk_d, zk_t, zk_ri, zk_rl] at he
  obtain ⟨hpc, hd, hn⟩ := he
  obtain ⟨r, x, S2, rfl, hk⟩ := zx_pi_inv hA
  rw [hpc]
  refine lv_dup2_11 C.1 C.2.1 hd rfl rfl ?_
  exact zc_next hK hn hk ((I.push (v := .inr (.inr r)) trivial).push (v := .inl x) I.top)
theorem zs_pop  {pc len a b : Nat} {d : Int} {ts : List (Int × Nat)} (C : zc_C j p s m args meth c D ad adV cA A) (he : zk_e j i (pc, .pop, len, a, b, d, ts) = true) (hA : zx_act R (pc, .pop, len, a, b, d, ts) i L S h Q K) (hK : ∀ i2 L2 S2 h2, K i2 L2 S2 h2 → zc_W j p l e s m args below meth c D ad adV cA A Qf i2 L2 S2 h2) : zc_W j p l e s m args below meth c D ad adV cA A Qf i L S h := by
  intro H locs ls I
  simp only [zk_e, Bool.and_eq_true, decide_eq_true_eq, zk_s, zk_d, zk_t, zk_ri, zk_rl] at he
  obtain ⟨hpc, hd, hn⟩ := he
  obtain ⟨x, S2, rfl, hk⟩ := zx_p1_inv hA
  rw [hpc]
  refine lv_pop C.1 C.2.1 hd rfl ?_
  exact zc_next hK hn hk I.rest
theorem zs_goto {n : Int} {pc len a b : Nat} {d : Int} {ts : List (Int × Nat)} (C : zc_C j p s m args meth c D ad adV cA A) (he : zk_e j i (pc, .goto n, len, a, b, d, ts) = true) (hA : zx_act R (pc, .goto n, len, a, b, d, ts) i L S h Q K) (hK : ∀ i2 L2 S2 h2, K i2 L2 S2 h2 → zc_W j p l e s m args below meth c D ad adV cA A Qf i2 L2 S2 h2) : zc_W j p l e s m args below meth c D ad adV cA A Qf i L S h := by
  intro H locs ls I
  simp only [zk_e, Bool.and_eq_true, decide_eq_true_eq, zk_s, zk_d, zk_t, zk_ri, zk_rl] at he
  obtain ⟨hpc, hd, ht⟩ := he
  rw [hpc]
  refine lv_goto C.1 C.2.1 hd ht ?_
  exact zc_next hK rfl hA I
theorem zs_ifCond {q : ClassFile.Cond} {n : Int} {pc len a b : Nat} {d : Int} {ts : List (Int × Nat)} (C : zc_C j p s m args meth c D ad adV cA A) (he : zk_e j i (pc, .ifCond q n, len, a, b, d, ts) = true) (hA : zx_act R (pc, .ifCond q n, len, a, b, d, ts) i L S h Q K) (hK : ∀ i2 L2 S2 h2, K i2 L2 S2 h2 → zc_W j p l e s m args below meth c D ad adV cA A Qf i2 L2 S2 h2) : zc_W j p l e s m args below meth c D ad adV cA A Qf i L S h := by
  intro H locs ls I
  simp only [zk_e, Bool.and_eq_true, decide_eq_true_eq, zk_s, zk_d, zk_t, zk_ri, zk_rl] at he
  obtain ⟨hpc, ⟨hd, hn⟩, ht⟩ := he
  obtain ⟨x, S2, rfl, hk⟩ := zx_p1_inv hA
  rw [hpc]
  have hx : zc_i x := I.top
  have I2 : zc_I j s D ad cA A L S2 h H locs ls := I.rest
  cases q with
  | eq =>
    refine lv_if_eq C.1 C.2.1 hd ht (fun z => ?_) (fun z => ?_)
    · exact zc_next hK rfl (hk.1 ((zc_eq0 hx).mp z)) I2
    · exact zc_next hK hn (hk.2 (fun y => z ((zc_eq0 hx).mpr y))) I2
  | ne =>
    refine lv_if_ne C.1 C.2.1 hd ht (fun z => ?_) (fun z => ?_)
    · exact zc_next hK rfl (hk.2 (fun y => z ((zc_eq0 hx).mpr y))) I2
    · exact zc_next hK hn (hk.1 ((zc_eq0 hx).mp z)) I2
  | lt =>
    refine lv_if_lt C.1 C.2.1 hd ht (fun z => ?_) (fun z => ?_)
    · exact zc_next hK rfl (hk.1 ((zc_lt0 hx).mp z)) I2
    · exact zc_next hK hn (hk.2 (fun y => z ((zc_lt0 hx).mpr y))) I2
  | ge =>
    refine lv_if_ge C.1 C.2.1 hd ht (fun z => ?_) (fun z => ?_)
    · exact zc_next hK rfl (hk.2 (Int.not_lt.mpr ((zc_ge0 hx).mp z))) I2
    · exact zc_next hK hn (hk.1 (Int.not_le.mp (fun y => z ((zc_ge0 hx).mpr y)))) I2
  | gt =>
    refine lv_if_gt C.1 C.2.1 hd ht (fun z => ?_) (fun z => ?_)
    · exact zc_next hK rfl (hk.1 ((zc_gt0 hx).mp z)) I2
    · exact zc_next hK hn (hk.2 (fun y => z ((zc_gt0 hx).mpr y))) I2
  | le =>
    refine lv_if_le C.1 C.2.1 hd ht (fun z => ?_) (fun z => ?_)
    · exact zc_next hK rfl (hk.2 (Int.not_lt.mpr ((zc_le0 hx).mp z))) I2
    · exact zc_next hK hn (hk.1 (Int.not_le.mp (fun y => z ((zc_le0 hx).mpr y)))) I2

theorem zs_if_icmp {q : ClassFile.Cond} {n : Int} {pc len a b : Nat} {d : Int} {ts : List (Int × Nat)} (C : zc_C j p s m args meth c D ad adV cA A) (he : zk_e j i (pc, .if_icmp q n, len, a, b, d, ts) = true) (hA : zx_act R (pc, .if_icmp q n, len, a, b, d, ts) i L S h Q K) (hK : ∀ i2 L2 S2 h2, K i2 L2 S2 h2 → zc_W j p l e s m args below meth c D ad adV cA A Qf i2 L2 S2 h2) : zc_W j p l e s m args below meth c D ad adV cA A Qf i L S h := by
  intro H locs ls I
  simp only [zk_e, Bool.and_eq_true, decide_eq_true_eq, zk_s, zk_d, zk_t, zk_ri, zk_rl] at he
  obtain ⟨hpc, ⟨hd, hn⟩, ht⟩ := he
  obtain ⟨x, y, S2, rfl, hk⟩ := zx_p2_inv hA
  rw [hpc]
  have hy : zc_i y := I.top
  have hx : zc_i x := I.rest.top
  have I2 : zc_I j s D ad cA A L S2 h H locs ls := I.rest.rest
  cases q with
  | eq =>
    refine lv_icmp_eq C.1 C.2.1 hd ht (fun z => ?_) (fun z => ?_)
    · exact zc_next hK rfl (hk.1 ((zc_eq hx hy).mp z)) I2
    · exact zc_next hK hn (hk.2 (fun y => z ((zc_eq hx hy).mpr y))) I2
  | ne =>
    refine lv_icmp_ne C.1 C.2.1 hd ht (fun z => ?_) (fun z => ?_)
    · exact zc_next hK rfl (hk.2 (fun y => z ((zc_eq hx hy).mpr y))) I2
    · exact zc_next hK hn (hk.1 ((zc_eq hx hy).mp z)) I2
  | lt =>
    refine lv_icmp_lt C.1 C.2.1 hd ht (fun z => ?_) (fun z => ?_)
    · exact zc_next hK rfl (hk.1 ((zc_lt hx hy).mp z)) I2
    · exact zc_next hK hn (hk.2 (fun y => z ((zc_lt hx hy).mpr y))) I2
  | ge =>
    refine lv_icmp_ge C.1 C.2.1 hd ht (fun z => ?_) (fun z => ?_)
    · exact zc_next hK rfl (hk.2 (Int.not_lt.mpr ((zc_le hy hx).mp z))) I2
    · exact zc_next hK hn (hk.1 (Int.not_le.mp (fun y => z ((zc_le hy hx).mpr y)))) I2
  | gt =>
    refine lv_icmp_gt C.1 C.2.1 hd ht (fun z => ?_) (fun z => ?_)
    · exact zc_next hK rfl (hk.1 ((zc_lt hy hx).mp z)) I2
    · exact zc_next hK hn (hk.2 (fun y => z ((zc_lt hy hx).mpr y))) I2
  | le =>
    refine lv_icmp_le C.1 C.2.1 hd ht (fun z => ?_) (fun z => ?_)
    · exact zc_next hK rfl (hk.2 (Int.not_lt.mpr ((zc_le hx hy).mp z))) I2
    · exact zc_next hK hn (hk.1 (Int.not_le.mp (fun y => z ((zc_le hx hy).mpr y)))) I2

end ZS
end
section
/-! CLASSES, SHAPES: what a program decides of them -/
theorem zc_u0 : ∀ w ∈ u_ws RX0 TX0 2, w ∈ lw_tbl ∧ goodWord w = true := by decide +kernel
theorem zc_u1 : ∀ w ∈ u_ws RX1 TX1 2, w ∈ lw_tbl ∧ goodWord w = true := by decide +kernel
theorem zc_u2 : ∀ w ∈ u_ws RX2 TX2 8, w ∈ lw_tbl ∧ goodWord w = true := by decide +kernel
theorem zc_u3 : ∀ w ∈ u_ws RX3 TX3 3, w ∈ lw_tbl ∧ goodWord w = true := by decide +kernel
theorem zc_u4 : ∀ w ∈ u_ws RX4 TX4 8, w ∈ lw_tbl ∧ goodWord w = true := by decide +kernel
theorem zc_u5 : ∀ w ∈ u_ws RX5 TX5 6, w ∈ lw_tbl ∧ goodWord w = true := by decide +kernel
theorem zc_u6 : ∀ w ∈ u_ws RX6 TX6 3, w ∈ lw_tbl ∧ goodWord w = true := by decide +kernel
theorem zc_u7 : ∀ w ∈ u_ws RX7 TX7 2, w ∈ lw_tbl ∧ goodWord w = true := by decide +kernel
theorem zc_u8 : ∀ w ∈ u_ws RX8 TX8 9, w ∈ lw_tbl ∧ goodWord w = true := by decide +kernel
theorem zc_u9 : ∀ w ∈ u_ws RX9 TX9 17, w ∈ lw_tbl ∧ goodWord w = true := by decide +kernel
theorem zc_u10 : ∀ w ∈ u_ws RX10 TX10 46, w ∈ lw_tbl ∧ goodWord w = true := by decide +kernel
def zc_Cl (q : vw_C) : Prop := (∀ w ∈ u_ws q.1 q.2.1 q.2.2, w ∈ zc_tb) ∧ (∃ ty : Nat → FieldType, ∀ k, k < q.2.2 → parseFieldDescriptor (q.2.1 k).2.2.1 = some (ty k)) ∧ (∀ x, x < q.2.2 → ∀ y, y < q.2.2 → x ≠ y → (q.2.1 x).2.1 ≠ (q.2.1 y).2.1)
theorem zc_Cl_of {C : String} {T : u_T} {N : Nat} (ty : Nat → FieldType) (h : ∀ w ∈ u_ws C T N, w ∈ lw_tbl ∧ goodWord w = true) (h2 : ∀ k, k < N → parseFieldDescriptor (T k).2.2.1 = some (ty k)) (h3 : ∀ a, a < N → ∀ b, b < N → a ≠ b → (T a).2.1 ≠ (T b).2.1) : zc_Cl (C, T, N) :=
  ⟨fun w hw => List.mem_filter.mpr (h w hw), ⟨ty, h2⟩, h3⟩
theorem zc_cls {a : Nat} {q : vw_C} (h : vwCl[a]? = some q) : zc_Cl q := by
  match a, h with
  | 0, h => cases h; exact zc_Cl_of tyX0 zc_u0 tyX0_ok nmX0
  | 1, h => cases h; exact zc_Cl_of tyX1 zc_u1 tyX1_ok nmX1
  | 2, h => cases h; exact zc_Cl_of tyX2 zc_u2 tyX2_ok nmX2
  | 3, h => cases h; exact zc_Cl_of tyX3 zc_u3 tyX3_ok nmX3
  | 4, h => cases h; exact zc_Cl_of tyX4 zc_u4 tyX4_ok nmX4
  | 5, h => cases h; exact zc_Cl_of tyX5 zc_u5 tyX5_ok nmX5
  | 6, h => cases h; exact zc_Cl_of tyX6 zc_u6 tyX6_ok nmX6
  | 7, h => cases h; exact zc_Cl_of tyX7 zc_u7 tyX7_ok nmX7
  | 8, h => cases h; exact zc_Cl_of tyX8 zc_u8 tyX8_ok nmX8
  | 9, h => cases h; exact zc_Cl_of tyX9 zc_u9 tyX9_ok nmX9
  | 10, h => cases h; exact zc_Cl_of tyX10 zc_u10 tyX10_ok nmX10
  | k + 11, h => simp at h
theorem zc_shp : ∀ r, r < 108 → zx_tg r = 0 → (vwCl[zx_ci r]?).map (fun q => q.2.2) = some (zx_n r) := by decide +kernel
theorem zc_nle : ∀ r, r < 108 → zx_n r ≤ 4800 := by decide +kernel
theorem zc_refs : ∀ r, r < 108 → (zx_tg r = 4 ∨ zx_tg r = 5) → ∀ k, k < zx_n r → (zx_nt (zx_rf r) k).isSome = true := by decide +kernel
theorem zc_wmax : Cond.static Lib.Math.max.name ∈ lw_tbl ∧ Cond.initialized "java/lang/Math" ∈ lw_tbl ∧ Cond.code Lib.Math.max.name Lib.Math.max.code 2 (some .int) ∈ lw_tbl := by decide +kernel
theorem zc_wmin : Cond.static Lib.Math.min.name ∈ lw_tbl ∧ Cond.code Lib.Math.min.name Lib.Math.min.code 2 (some .int) ∈ lw_tbl := by decide +kernel
theorem zc_wcpy : Cond.native arraycopyName ∈ lw_tbl ∧ Cond.static arraycopyName ∈ lw_tbl ∧ Cond.initialized "java/lang/System" ∈ lw_tbl := by decide +kernel
theorem zc_tbI {w : Cond} (h : w ∈ lw_tbl) (hg : goodWord w = true) : w ∈ zc_tb := List.mem_filter.mpr ⟨h, hg⟩
theorem zk_f_inv {j k a b : Nat} {d : Int} {ts : List (Int × Nat)} {put : Bool} {ty : FieldType} (h : zk_f j k a b d ts put ty = true) : ∃ (q : Int) (C : String) (T : u_T) (N : Nat), vwCl[a]? = some (C, T, N) ∧ d = (b : Int) ∧ b < N ∧ zk_w q.toNat (.fieldLink (zc_own j) k (T b).1 (T b).2.1 (T b).2.2.1) = true ∧ (put = true → (T b).2.2.2 = false ∧ parseFieldDescriptor (T b).2.2.1 = some ty) := by
  unfold zk_f at h
  split at h
  · rename_i q _ C T N hq
    simp only [Bool.and_eq_true, decide_eq_true_eq, Bool.or_eq_true, Bool.not_eq_true'] at h
    obtain ⟨⟨⟨h1, h2⟩, h3⟩, h4⟩ := h
    refine ⟨q, C, T, N, hq, h1, h2, h3, fun hp => ?_⟩
    rcases h4 with h4 | h4
    · rw [hp] at h4; cases h4
    · exact h4
  · cases h
section ZT
variable {j : Nat} {p : Program} {l : Launch} {e : Env} {s : State} {m : MethodId} {args : Array Value} {below : List Frame} {meth : Method} {c : Code} {D : va_G} {ad adV : Nat → Nat} {cA : Nat → ClassId} {A : Nat → Prop} {Qf : State → Prop} {i : Nat} {L : zL} {S : List zV} {h : zM} {Q : zQ} {K : Nat → zL → List zV → zM → Prop} {R : Nat → List zV → zM → zQ → Prop}
theorem zc_obj {a b : Nat} {C : String} {T : u_T} {N r : Nat} (ho : zx_ob r a b) (hc : vwCl[a]? = some (C, T, N)) : r < 108 ∧ N = zx_n r ∧ (zc_ws ad cA h)[r]? = some (ad r, .inr (a, zc_fs ad h r)) := by
  obtain ⟨ht, hci, hb⟩ := ho
  have hr : r < 108 := zc_r (by rw [ht]; decide)
  have h1 := zc_shp r hr ht
  rw [hci, hc] at h1
  refine ⟨hr, Option.some.inj h1, ?_⟩
  rw [zc_at ad cA h hr, zc_el0 ht, hci]
theorem zc_c1 {r : Nat} (ht : zx_tg r = 1) : (zc_ws ad cA h)[r]? = some (ad r, .inl (cA 1, zx_n r, .inl (fun k : Nat => Int32.ofInt (h r (k : Int))))) := by rw [zc_at ad cA h (zc_r (by rw [ht]; decide)), zc_el1 ht]
theorem zc_c2 {r : Nat} (ht : zx_tg r = 2) : (zc_ws ad cA h)[r]? = some (ad r, .inl (cA 2, zx_n r, .inl (fun k : Nat => Int32.ofInt (h r (k : Int))))) := by rw [zc_at ad cA h (zc_r (by rw [ht]; decide)), zc_el2 ht]
theorem zc_c3 {r : Nat} (ht : zx_tg r = 3) : (zc_ws ad cA h)[r]? = some (ad r, .inl (cA 3, zx_n r, .inl (fun k : Nat => Int32.ofInt (h r (k : Int))))) := by rw [zc_at ad cA h (zc_r (by rw [ht]; decide)), zc_el3 ht]
theorem zc_c4 {r : Nat} (ht : zx_tg r = 4) : (zc_ws ad cA h)[r]? = some (ad r, .inl (cA 4, zx_n r, .inr (.inr (.inr (.inr (fun k : Nat => (zx_nt (zx_rf r) k).map ad)))))) := by rw [zc_at ad cA h (zc_r (by rw [ht]; decide)), zc_el4 ht]
theorem zc_c5 {r : Nat} (ht : zx_tg r = 5) : (zc_ws ad cA h)[r]? = some (ad r, .inl (cA 5, zx_n r, .inr (.inr (.inr (.inr (fun k : Nat => (zx_nt (zx_rf r) k).map ad)))))) := by rw [zc_at ad cA h (zc_r (by rw [ht]; decide)), zc_el5 ht]
theorem zc_fld_ok (hM : zc_M h) {o : Option Nat} {r : Nat} {k : Int} : zc_ok (zx_fld o (h r k)) := by
  cases o with
  | none => exact hM r k
  | some q => trivial
theorem zs_getfield {n pc len a b : Nat} {d : Int} {ts : List (Int × Nat)} (C : zc_C j p s m args meth c D ad adV cA A) (he : zk_e j i (pc, .getfield n, len, a, b, d, ts) = true) (hA : zx_act R (pc, .getfield n, len, a, b, d, ts) i L S h Q K) (hK : ∀ i2 L2 S2 h2, K i2 L2 S2 h2 → zc_W j p l e s m args below meth c D ad adV cA A Qf i2 L2 S2 h2) : zc_W j p l e s m args below meth c D ad adV cA A Qf i L S h := by
  intro H locs ls I
  simp only [zk_e, Bool.and_eq_true, decide_eq_true_eq, zk_s, zk_d] at he
  obtain ⟨hpc, ⟨hd, hn⟩, hf⟩ := he
  obtain ⟨q, CC, T, N, hc, hdb, hbN, hw, -⟩ := zk_f_inv hf
  obtain ⟨r, S2, rfl, hk0⟩ := zx_pr_inv hA
  obtain ⟨hB, hk⟩ := zx_tf hk0
  have ho := zx_ob_of hB
  obtain ⟨hr, hN, hcell⟩ := zc_obj (ad := ad) (cA := cA) (h := h) ho hc
  obtain ⟨hin, -, -⟩ := zc_cls hc
  subst hdb
  rw [hpc]
  refine va_get (D := D) (ci := a) (C := CC) (T := T) (N := N) C.1 C.2.1 C.2.2.2.2.2.1 hin C.2.2.2.2.1 C.2.2.2.2.2.2.2.1 I.1.1 r hcell hc b hbN (C.word hw) (fun _ z => z) (zc_fget ho.2.2) hd ?_
  exact zc_next hK hn hk (I.rest.push (zc_fld_ok I.2.2.2))
/-- a field's store, an int or a boolean -/
theorem zc_putf {n pc a b : Nat} {ty : FieldType} {x : Int} {r : Nat} {S2 : List zV} {q : Int} {CC : String} {T : u_T} {N : Nat} {H : Heap} {locs : List Loc} {ls : Array Slot} (C : zc_C j p s m args meth c D ad adV cA A) (hd : decode (zx_by j) pc = .ok (.putfield n, 3)) (hn : zx_pc j (i + 1) = pc + 3) (hc : vwCl[a]? = some (CC, T, N)) (hbN : b < N) (hw : zk_w q.toNat (.fieldLink (zc_own j) n (T b).1 (T b).2.1 (T b).2.2.1) = true) (hfin : (T b).2.2.2 = false) (hty : parseFieldDescriptor (T b).2.2.1 = some ty) (hna : narrow ty (.int (Int32.ofInt x)) = .int (Int32.ofInt x)) (hfi : fits ty (.int (Int32.ofInt x)) = true)
    (ho : zx_ob r a b) (hnt : zx_nt (zx_rf r) b = none) (hk : K (i + 1) L S2 (zx_st h r (b : Int) x)) (hK : ∀ i2 L2 S2 h2, K i2 L2 S2 h2 → zc_W j p l e s m args below meth c D ad adV cA A Qf i2 L2 S2 h2) (I : zc_I j s D ad cA A L (.inl x :: .inr (.inr r) :: S2) h H locs ls) : W p l e (zx_rm j) s m args below meth c H locs 0 0 Qf (F0 m pc ls (Value.int (Int32.ofInt x) :: Value.ref (ad r) :: S2.map (zc_v ad))) := by
  obtain ⟨hr, hN, hcell⟩ := zc_obj (ad := ad) (cA := cA) (h := h) ho hc
  obtain ⟨hin, ⟨ty0, hty0⟩, hnm⟩ := zc_cls hc
  refine va_put (D := D) (ci := a) (v := .int (Int32.ofInt x)) (ty := ty) (C := CC) (T := T) (N := N) C.1 C.2.1 C.2.2.2.2.2.1 hin ty0 hty0 hnm C.2.2.2.2.1 C.2.2.2.2.2.2.2.1 I.1.1 I.1.2.1 I.1.2.2 r hcell hc b hbN (C.word hw) (fun _ z => z) hfin hty hna hfi (by rw [zc_flen]; exact ho.2.2) hd (fun H1 locs1 hP hD hS => ?_)
  have ee : (zc_ws ad cA h).set r (ad r, .inr (a, (zc_fs ad h r).set b (.int (Int32.ofInt x)))) = zc_ws ad cA (zx_st h r (b : Int) x) :=
    zc_set hr (by rw [zc_el0 ho.1, zc_fput ho.2.2 hnt, ho.2.1]) (fun q _ hne => zc_el_of (fun k => zc_st_ne hne))
  rw [ee] at hP hD
  exact zc_next hK hn hk ⟨⟨hP, hD, hS⟩, I.2.1, I.rest.rest.2.2.1, zc_st_M I.2.2.2 I.top⟩
theorem zs_putfield {n pc len a b : Nat} {d : Int} {ts : List (Int × Nat)} (C : zc_C j p s m args meth c D ad adV cA A) (he : zk_e j i (pc, .putfield n, len, a, b, d, ts) = true) (hA : zx_act R (pc, .putfield n, len, a, b, d, ts) i L S h Q K) (hK : ∀ i2 L2 S2 h2, K i2 L2 S2 h2 → zc_W j p l e s m args below meth c D ad adV cA A Qf i2 L2 S2 h2) : zc_W j p l e s m args below meth c D ad adV cA A Qf i L S h := by
  intro H locs ls I
  simp only [zk_e, Bool.and_eq_true, decide_eq_true_eq, zk_s, zk_d] at he
  obtain ⟨hpc, ⟨hd, hn⟩, hf⟩ := he
  obtain ⟨q, CC, T, N, hc, hdb, hbN, hw, hp⟩ := zk_f_inv hf
  obtain ⟨hfin, hty⟩ := hp rfl
  obtain ⟨r, x, S2, rfl, hk0⟩ := zx_pi_inv (k := fun r x S => match zx_obB r a b && zx_noR (zx_nt (zx_rf r) b) with | true => K (i + 1) L S (zx_st h r d x) | false => False) hA
  obtain ⟨hB, hk⟩ := zx_tf hk0
  rw [Bool.and_eq_true] at hB
  have ho := zx_ob_of hB.1
  have hnt := zx_noR_of hB.2
  subst hdb
  rw [hpc]
  exact zc_putf C hd hn hc hbN hw hfin hty rfl rfl ho hnt hk hK I
theorem zs_putstatic {n pc len a b : Nat} {d : Int} {ts : List (Int × Nat)} (C : zc_C j p s m args meth c D ad adV cA A) (he : zk_e j i (pc, .putstatic n, len, a, b, d, ts) = true) (hA : zx_act R (pc, .putstatic n, len, a, b, d, ts) i L S h Q K) (hK : ∀ i2 L2 S2 h2, K i2 L2 S2 h2 → zc_W j p l e s m args below meth c D ad adV cA A Qf i2 L2 S2 h2) : zc_W j p l e s m args below meth c D ad adV cA A Qf i L S h := by
  intro H locs ls I
  simp only [zk_e, Bool.and_eq_true, decide_eq_true_eq, zk_s, zk_d] at he
  obtain ⟨hpc, ⟨hd, hn⟩, hf⟩ := he
  obtain ⟨q, CC, T, N, hc, hdb, hbN, hw, hp⟩ := zk_f_inv hf
  obtain ⟨hfin, hty⟩ := hp rfl
  obtain ⟨r, x, S2, rfl, hk0⟩ := zx_pi_inv (k := fun r x S => match zx_obB r a b && zx_noR (zx_nt (zx_rf r) b) with | true => (x = 0 ∨ x = 1) ∧ K (i + 1) L S (zx_st h r d x) | false => False) hA
  obtain ⟨hB, h01, hk⟩ := zx_tf hk0
  rw [Bool.and_eq_true] at hB
  have ho := zx_ob_of hB.1
  have hnt := zx_noR_of hB.2
  subst hdb
  rw [hpc]
  rcases h01 with rfl | rfl
  · exact zc_putf C hd hn hc hbN hw hfin hty (by decide) (by decide) ho hnt hk hK I
  · exact zc_putf C hd hn hc hbN hw hfin hty (by decide) (by decide) ho hnt hk hK I
theorem zc_ald {x : Int} {r : Nat} (hx : zc_i x) (h0 : 0 ≤ x) : Int32.ofInt (h r ((Int32.ofInt x).toNatClampNeg : Int)) = Int32.ofInt (h r x) := by
  rw [zc_cl hx, Int.toNat_of_nonneg h0]
theorem zs_iaload {pc len a b : Nat} {d : Int} {ts : List (Int × Nat)} (C : zc_C j p s m args meth c D ad adV cA A) (he : zk_e j i (pc, .iaload, len, a, b, d, ts) = true) (hA : zx_act R (pc, .iaload, len, a, b, d, ts) i L S h Q K) (hK : ∀ i2 L2 S2 h2, K i2 L2 S2 h2 → zc_W j p l e s m args below meth c D ad adV cA A Qf i2 L2 S2 h2) : zc_W j p l e s m args below meth c D ad adV cA A Qf i L S h := by
  intro H locs ls I
  simp only [zk_e, Bool.and_eq_true, decide_eq_true_eq, zk_s, zk_d] at he
  obtain ⟨hpc, hd, hn⟩ := he
  obtain ⟨r, x, S2, rfl, hk0⟩ := zx_pi_inv hA
  obtain ⟨hB, ⟨h0, h1⟩, hk⟩ := zx_tf hk0
  have ht := Nat.eq_of_beq_eq_true hB
  have hr : r < 108 := zc_r (by rw [ht]; decide)
  have hx : zc_i x := I.top
  rw [hpc]
  refine va_iald C.1 C.2.1 C.2.2.2.2.2.2.2.1 I.1.1 r 1 (zc_c1 ht) rfl (zc_in (n := zx_n r) hx h0 h1) hd ?_
  rw [zc_ald hx h0]
  exact zc_next hK hn hk (I.rest.rest.push (v := .inl _) (I.2.2.2 r x))
theorem zs_baload {pc len a b : Nat} {d : Int} {ts : List (Int × Nat)} (C : zc_C j p s m args meth c D ad adV cA A) (he : zk_e j i (pc, .baload, len, a, b, d, ts) = true) (hA : zx_act R (pc, .baload, len, a, b, d, ts) i L S h Q K) (hK : ∀ i2 L2 S2 h2, K i2 L2 S2 h2 → zc_W j p l e s m args below meth c D ad adV cA A Qf i2 L2 S2 h2) : zc_W j p l e s m args below meth c D ad adV cA A Qf i L S h := by
  intro H locs ls I
  simp only [zk_e, Bool.and_eq_true, decide_eq_true_eq, zk_s, zk_d] at he
  obtain ⟨hpc, hd, hn⟩ := he
  obtain ⟨r, x, S2, rfl, hk0⟩ := zx_pi_inv hA
  obtain ⟨hB, ⟨h0, h1⟩, hk⟩ := zx_tf hk0
  have ht := Nat.eq_of_beq_eq_true hB
  have hr : r < 108 := zc_r (by rw [ht]; decide)
  have hx : zc_i x := I.top
  rw [hpc]
  refine va_bald C.1 C.2.1 C.2.2.2.2.2.2.2.1 I.1.1 r 2 (zc_c2 ht) rfl (zc_in (n := zx_n r) hx h0 h1) hd ?_
  rw [zc_ald hx h0]
  exact zc_next hK hn hk (I.rest.rest.push (v := .inl _) (I.2.2.2 r x))
theorem zs_saload {pc len a b : Nat} {d : Int} {ts : List (Int × Nat)} (C : zc_C j p s m args meth c D ad adV cA A) (he : zk_e j i (pc, .saload, len, a, b, d, ts) = true) (hA : zx_act R (pc, .saload, len, a, b, d, ts) i L S h Q K) (hK : ∀ i2 L2 S2 h2, K i2 L2 S2 h2 → zc_W j p l e s m args below meth c D ad adV cA A Qf i2 L2 S2 h2) : zc_W j p l e s m args below meth c D ad adV cA A Qf i L S h := by
  intro H locs ls I
  simp only [zk_e, Bool.and_eq_true, decide_eq_true_eq, zk_s, zk_d] at he
  obtain ⟨hpc, hd, hn⟩ := he
  obtain ⟨r, x, S2, rfl, hk0⟩ := zx_pi_inv hA
  obtain ⟨hB, ⟨h0, h1⟩, hk⟩ := zx_tf hk0
  have ht := Nat.eq_of_beq_eq_true hB
  have hr : r < 108 := zc_r (by rw [ht]; decide)
  have hx : zc_i x := I.top
  rw [hpc]
  refine va_zald C.1 C.2.1 C.2.2.2.2.2.2.2.1 I.1.1 r 3 (zc_c3 ht) rfl (zc_in (n := zx_n r) hx h0 h1) hd ?_
  rw [zc_ald hx h0]
  exact zc_next hK hn hk (I.rest.rest.push (v := .inl _) (I.2.2.2 r x))
theorem zs_iastore {pc len a b : Nat} {d : Int} {ts : List (Int × Nat)} (C : zc_C j p s m args meth c D ad adV cA A) (he : zk_e j i (pc, .iastore, len, a, b, d, ts) = true) (hA : zx_act R (pc, .iastore, len, a, b, d, ts) i L S h Q K) (hK : ∀ i2 L2 S2 h2, K i2 L2 S2 h2 → zc_W j p l e s m args below meth c D ad adV cA A Qf i2 L2 S2 h2) : zc_W j p l e s m args below meth c D ad adV cA A Qf i L S h := by
  intro H locs ls I
  simp only [zk_e, Bool.and_eq_true, decide_eq_true_eq, zk_s, zk_d] at he
  obtain ⟨hpc, hd, hn⟩ := he
  obtain ⟨r, x, v, S2, rfl, hk0⟩ := zx_pii_inv hA
  obtain ⟨hB, ⟨h0, h1⟩, hk⟩ := zx_tf hk0
  have ht := Nat.eq_of_beq_eq_true hB
  have hr : r < 108 := zc_r (by rw [ht]; decide)
  have hx : zc_i x := I.rest.top
  rw [hpc]
  refine va_iast C.1 C.2.1 C.2.2.2.2.2.2.2.1 I.1.1 I.1.2.1 I.1.2.2 r 1 (zc_c1 ht) rfl (zc_in (n := zx_n r) hx h0 h1) hd (fun H1 locs1 hP hD hS => ?_)
  rw [zc_cl hx, zc_upd h0] at hP hD
  have ee : (zc_ws ad cA h).set r (ad r, .inl (cA 1, zx_n r, .inl (fun k : Nat => Int32.ofInt (zx_st h r x v r (k : Int))))) = zc_ws ad cA (zx_st h r x v) :=
    zc_set hr (by rw [zc_el1 ht]) (fun q _ hne => zc_el_of (fun k => zc_st_ne hne))
  rw [ee] at hP hD
  exact zc_next hK hn hk ⟨⟨hP, hD, hS⟩, I.2.1, I.rest.rest.rest.2.2.1, zc_st_M I.2.2.2 I.top⟩
theorem zc_b_nar {v : Int} (hv : -128 ≤ v ∧ v < 128) : vp_nar .byte (Int32.ofInt v) = Int32.ofInt v := by
  rw [vp_nar_byte]
  exact zc_byte hv
theorem zc_z_nar {v : Int} (hv : v = 0 ∨ v = 1) : vp_nar .boolean (Int32.ofInt v) = Int32.ofInt v := by
  rcases hv with rfl | rfl <;> decide
theorem zs_bastore {pc len a b : Nat} {d : Int} {ts : List (Int × Nat)} (C : zc_C j p s m args meth c D ad adV cA A) (he : zk_e j i (pc, .bastore, len, a, b, d, ts) = true) (hA : zx_act R (pc, .bastore, len, a, b, d, ts) i L S h Q K) (hK : ∀ i2 L2 S2 h2, K i2 L2 S2 h2 → zc_W j p l e s m args below meth c D ad adV cA A Qf i2 L2 S2 h2) : zc_W j p l e s m args below meth c D ad adV cA A Qf i L S h := by
  intro H locs ls I
  simp only [zk_e, Bool.and_eq_true, decide_eq_true_eq, zk_s, zk_d] at he
  obtain ⟨hpc, hd, hn⟩ := he
  obtain ⟨r, x, v, S2, rfl, hk0⟩ := zx_pii_inv hA
  obtain ⟨hB, ⟨h0, h1⟩, hv, hk⟩ := zx_tf hk0
  have ht := Nat.eq_of_beq_eq_true hB
  have hr : r < 108 := zc_r (by rw [ht]; decide)
  have hx : zc_i x := I.rest.top
  rw [hpc]
  refine va_bast C.1 C.2.1 C.2.2.2.2.2.2.2.1 I.1.1 I.1.2.1 I.1.2.2 r 2 (zc_c2 ht) rfl (zc_in (n := zx_n r) hx h0 h1) hd (fun H1 locs1 hP hD hS => ?_)
  rw [zc_b_nar hv, zc_cl hx, zc_upd h0] at hP hD
  have ee : (zc_ws ad cA h).set r (ad r, .inl (cA 2, zx_n r, .inl (fun k : Nat => Int32.ofInt (zx_st h r x v r (k : Int))))) = zc_ws ad cA (zx_st h r x v) :=
    zc_set hr (by rw [zc_el2 ht]) (fun q _ hne => zc_el_of (fun k => zc_st_ne hne))
  rw [ee] at hP hD
  exact zc_next hK hn hk ⟨⟨hP, hD, hS⟩, I.2.1, I.rest.rest.rest.2.2.1, zc_st_M I.2.2.2 I.top⟩
theorem zs_sastore {pc len a b : Nat} {d : Int} {ts : List (Int × Nat)} (C : zc_C j p s m args meth c D ad adV cA A) (he : zk_e j i (pc, .sastore, len, a, b, d, ts) = true) (hA : zx_act R (pc, .sastore, len, a, b, d, ts) i L S h Q K) (hK : ∀ i2 L2 S2 h2, K i2 L2 S2 h2 → zc_W j p l e s m args below meth c D ad adV cA A Qf i2 L2 S2 h2) : zc_W j p l e s m args below meth c D ad adV cA A Qf i L S h := by
  intro H locs ls I
  simp only [zk_e, Bool.and_eq_true, decide_eq_true_eq, zk_s, zk_d] at he
  obtain ⟨hpc, hd, hn⟩ := he
  obtain ⟨r, x, v, S2, rfl, hk0⟩ := zx_pii_inv hA
  obtain ⟨hB, ⟨h0, h1⟩, hv, hk⟩ := zx_tf hk0
  have ht := Nat.eq_of_beq_eq_true hB
  have hr : r < 108 := zc_r (by rw [ht]; decide)
  have hx : zc_i x := I.rest.top
  rw [hpc]
  refine va_zast C.1 C.2.1 C.2.2.2.2.2.2.2.1 I.1.1 I.1.2.1 I.1.2.2 r 3 (zc_c3 ht) rfl (zc_in (n := zx_n r) hx h0 h1) hd (fun H1 locs1 hP hD hS => ?_)
  rw [zc_z_nar hv, zc_cl hx, zc_upd h0] at hP hD
  have ee : (zc_ws ad cA h).set r (ad r, .inl (cA 3, zx_n r, .inl (fun k : Nat => Int32.ofInt (zx_st h r x v r (k : Int))))) = zc_ws ad cA (zx_st h r x v) :=
    zc_set hr (by rw [zc_el3 ht]) (fun q _ hne => zc_el_of (fun k => zc_st_ne hne))
  rw [ee] at hP hD
  exact zc_next hK hn hk ⟨⟨hP, hD, hS⟩, I.2.1, I.rest.rest.rest.2.2.1, zc_st_M I.2.2.2 I.top⟩
theorem zs_aaload {pc len a b : Nat} {d : Int} {ts : List (Int × Nat)} (C : zc_C j p s m args meth c D ad adV cA A) (he : zk_e j i (pc, .aaload, len, a, b, d, ts) = true) (hA : zx_act R (pc, .aaload, len, a, b, d, ts) i L S h Q K) (hK : ∀ i2 L2 S2 h2, K i2 L2 S2 h2 → zc_W j p l e s m args below meth c D ad adV cA A Qf i2 L2 S2 h2) : zc_W j p l e s m args below meth c D ad adV cA A Qf i L S h := by
  intro H locs ls I
  simp only [zk_e, Bool.and_eq_true, decide_eq_true_eq, zk_s, zk_d] at he
  obtain ⟨hpc, hd, hn⟩ := he
  obtain ⟨r, x, S2, rfl, hk0⟩ := zx_pi_inv hA
  obtain ⟨hB, ⟨h0, h1⟩, hk⟩ := zx_tf hk0
  have ht := zx_isR_of hB
  have hr : r < 108 := zc_r (by rcases ht with ht | ht <;> rw [ht] <;> decide)
  have hx : zc_i x := I.top
  have hsome := zc_refs r hr ht x.toNat (by unfold zx_ln at h1; unfold zx_n; omega)
  obtain ⟨q, hq⟩ := Option.isSome_iff_exists.mp hsome
  have hv : va_rf ((fun k : Nat => (zx_nt (zx_rf r) k).map ad) (Int32.ofInt x).toNatClampNeg) = .ref (ad q) := by
    show va_rf ((zx_nt (zx_rf r) (Int32.ofInt x).toNatClampNeg).map ad) = _
    rw [zc_cl hx, hq]
    rfl
  rw [hq] at hk
  rw [hpc]
  rcases ht with ht | ht
  · refine va_aldq (C := "PointMaker$Program") C.1 C.2.1 C.2.2.2.2.2.2.2.1 I.1.1 r 4 (zc_c4 ht) rfl (zc_in (n := zx_n r) hx h0 h1) hd ?_
    rw [hv]
    exact zc_next hK hn hk (I.rest.rest.push (v := .inr (.inr q)) trivial)
  · refine va_aldq (C := "PointMaker$Sheet") C.1 C.2.1 C.2.2.2.2.2.2.2.1 I.1.1 r 5 (zc_c5 ht) rfl (zc_in (n := zx_n r) hx h0 h1) hd ?_
    rw [hv]
    exact zc_next hK hn hk (I.rest.rest.push (v := .inr (.inr q)) trivial)
theorem zs_arraylength {pc len a b : Nat} {d : Int} {ts : List (Int × Nat)} (C : zc_C j p s m args meth c D ad adV cA A) (he : zk_e j i (pc, .arraylength, len, a, b, d, ts) = true) (hA : zx_act R (pc, .arraylength, len, a, b, d, ts) i L S h Q K) (hK : ∀ i2 L2 S2 h2, K i2 L2 S2 h2 → zc_W j p l e s m args below meth c D ad adV cA A Qf i2 L2 S2 h2) : zc_W j p l e s m args below meth c D ad adV cA A Qf i L S h := by
  intro H locs ls I
  simp only [zk_e, Bool.and_eq_true, decide_eq_true_eq, zk_s, zk_d] at he
  obtain ⟨hpc, hd, hn⟩ := he
  obtain ⟨r, S2, rfl, hk0⟩ := zx_pr_inv hA
  obtain ⟨hB, hk⟩ := zx_tf hk0
  have ht := zx_isA_of hB
  have hr : r < 108 := zc_r (by rcases ht with ht | ht | ht <;> rw [ht] <;> decide)
  have hle := zc_nle r hr
  have hok : zc_i (zx_ln r) := by
    unfold zc_i zx_ln
    unfold zx_n at hle
    omega
  rw [hpc]
  rcases ht with ht | ht | ht
  · refine va_alen (v := Int32.ofInt (zx_ln r)) C.1 C.2.1 C.2.2.2.2.2.2.2.1 I.1.1 r 1 (zc_c1 ht) rfl (zc_ofN _).symm hd ?_
    exact zc_next hK hn hk (I.rest.push (v := .inl _) hok)
  · refine va_alen (v := Int32.ofInt (zx_ln r)) C.1 C.2.1 C.2.2.2.2.2.2.2.1 I.1.1 r 2 (zc_c2 ht) rfl (zc_ofN _).symm hd ?_
    exact zc_next hK hn hk (I.rest.push (v := .inl _) hok)
  · refine va_alen (v := Int32.ofInt (zx_ln r)) C.1 C.2.1 C.2.2.2.2.2.2.2.1 I.1.1 r 3 (zc_c3 ht) rfl (zc_ofN _).symm hd ?_
    exact zc_next hK hn hk (I.rest.push (v := .inl _) hok)
end ZT
end
section
/-! SWITCHES, the library's own, CALLS, ANSWERS -/
def zc_pre (D : va_G) (ad adV : Nat → Nat) (cA : Nat → ClassId) (A : Nat → Prop) (h : zM) (U : State) : Prop :=
  va_P D vwCl (zc_ws ad cA h) U.heap ∧ va_K D vwCl (zc_tys cA) U ∧ va_D A (zc_ws ad cA h) ∧ zc_X ad adV A U U.heap ∧ ∀ q, U.heap.size ≤ q → A q
def zc_B (D : va_G) (ad : Nat → Nat) (cA : Nat → ClassId) (A : Nat → Prop) (h : zM) (t : State) : Prop :=
  va_P D vwCl (zc_ws ad cA h) t.heap ∧ va_K D vwCl (zc_tys cA) t ∧ va_D A (zc_ws ad cA h)
def zc_Qc (Q : zQ) (D : va_G) (ad : Nat → Nat) (cA : Nat → ClassId) (A : Nat → Prop) : Array Value → State → Outcome → State → Prop := fun _ st oc t =>
  (∃ (rv : Option zV) (h : zM), oc = .returned (rv.map (zc_v ad)) ∧ (Q rv h ∧ zc_okO rv ∧ zc_M h) ∧ zc_B D ad cA A h t) ∧ va_F A st t
def zx_cN (j : Nat) : Nat := (zx_mt j).2.2.2.2.2.2.1
/-- an object of a method's own class -/
def zx_rcv (j r : Nat) : Bool := (zx_tg r == 0 && zx_ci r == zx_cN j) || (zx_cN j == 99 && decide (1000 ≤ r) && decide (r < 1000 + zc_nS))
def zc_rcv (j : Nat) (As : List zV) : Prop := zx_sts.contains j = true ∨ ∃ r As2, As = .inr (.inr r) :: As2 ∧ zx_rcv j r = true
/-- A METHOD'S CONTRACT, in the shadow's words -/
def zR (j : Nat) (As : List zV) (h : zM) (Q : zQ) : Prop := zc_rcv j As ∧ (zc_okS As → zc_M h → ∀ (l : Launch) (D : va_G) (ad adV : Nat → Nat) (cA : Nat → ClassId) (A : Nat → Prop),
  Met l (zx_y j) (zc_wsj j) (zx_rm j) (va_Pc (As.map (zc_v ad)) (zc_pre D ad adV cA A h)) (zc_Qc Q D ad cA A) 0 0 A)
theorem zc_X.same {ad adV : Nat → Nat} {A : Nat → Prop} {u U : State} {H : Heap} (hv : U.vm = u.vm) (h : zc_X ad adV A u H) : zc_X ad adV A U H := by
  obtain ⟨h1, h2, h3, h4, v, h5, h6⟩ := h
  have ha : u.vm.Alike U.vm := by rw [hv]; exact Vm.Alike.refl _
  refine ⟨fun w hw => va_Nw.same ?_ hv.symm (h1 w hw), fun q hq => vk_R.same hv (h2 q hq), h3.moved ha, h4.moved ha, v, h5, h6.moved ha⟩
  have := (List.mem_filter.mp hw).2
  cases w <;> first | rfl | (simp [zc_isN] at this)
theorem zc_X.warm {ad adV : Nat → Nat} {A : Nat → Prop} {s U : State} {H : Heap} (hW : s.WarmedH U.vm) (h : zc_X ad adV A s H) : zc_X ad adV A U H := by
  obtain ⟨h1, h2, h3, h4, v, h5, h6⟩ := h
  refine ⟨fun w hw => ?_, fun q hq => vk_R.warm hW (h2 q hq), h3.moved hW.alike, h4.moved hW.alike, v, h5, h6.moved hW.alike⟩
  have hn := (List.mem_filter.mp hw).2
  have h0 := h1 w hw
  cases w <;> first | exact va_Nw.warmM hW h0 | (simp [zc_isN] at hn)
theorem zc_X.kept {ad adV : Nat → Nat} {A : Nat → Prop} {U : State} {H H1 : Heap} (h : zc_X ad adV A U H) (hq : ∀ a : Nat, a < H.size → ¬ A a → H1[a]? = H[a]?) : zc_X ad adV A U H1 := by
  obtain ⟨h1, h2, h3, h4, v, h5, h6⟩ := h
  exact ⟨h1, h2, h3.kept hq, h4.kept hq, v, h5, h6.kept hq⟩
theorem zc_blind {av : List Value} {D : va_G} {ad adV : Nat → Nat} {cA : Nat → ClassId} {A : Nat → Prop} {h : zM} : FrameBlind (va_Pc av (zc_pre D ad adV cA A h)) := by
  intro a U g mk q
  obtain ⟨q0, q1, q2, q3, q4, q5⟩ := q
  exact ⟨q0, q1, va_K.moved (u := U) (U := U.calling g mk a) (Vm.Alike.refl U.vm) q2, q3, zc_X.same (u := U) (U := U.calling g mk a) rfl q4, q5⟩
theorem zc_good {w : Cond} (h : w ∈ zc_tb) : (w.onTables && w.keeps) = true ∨ ∃ ty, w = .arrayClass ty := good_of_word (List.mem_filter.mp h).2
theorem zc_goodIn {ws : List Cond} (h : ∀ w ∈ ws, w ∈ zc_tb) : GoodIn zc_tb ws := fun w hw => ⟨h w hw, zc_good (h w hw)⟩
theorem zx_low_inv {S : List zV} {P : Prop} (h : zx_low S P) : S.length ≤ 4 ∧ P := by
  unfold zx_low at h
  split at h
  · exact ⟨by simp, h⟩
  · exact ⟨by simp, h⟩
  · exact ⟨by simp, h⟩
  · exact ⟨by simp, h⟩
  · exact ⟨by simp, h⟩
  · exact h.elim
theorem zc_cats (ad : Nat → Nat) : ∀ S : List zV, ((S.map (zc_v ad)).map fun v => v.category).sum ≤ 2 * S.length
  | [] => by simp
  | v :: S => by
    have := zc_cats ad S
    have h2 : (zc_v ad v).category ≤ 2 := by rcases v with v | (v | v) <;> simp [zc_v, Value.category]
    simp only [List.map_cons, List.sum_cons, List.length_cons]
    omega
theorem zx_tk_inv {k : List zV → List zV → Prop} : ∀ (n : Nat) (S acc : List zV), zx_tk n S acc k → ∃ As S2, S = As.reverse ++ S2 ∧ As.length = n ∧ k (As ++ acc) S2
  | 0, S, acc, h => ⟨[], S, rfl, rfl, h⟩
  | n + 1, [], acc, h => h.elim
  | n + 1, v :: S, acc, h => by
    obtain ⟨As, S2, h1, h2, h3⟩ := zx_tk_inv n S (v :: acc) h
    refine ⟨As ++ [v], S2, ?_, by simp [h2], by simpa using h3⟩
    rw [h1]
    simp
section ZU
variable {j : Nat} {p : Program} {l : Launch} {e : Env} {s : State} {m : MethodId} {args : Array Value} {below : List Frame} {meth : Method} {c : Code} {D : va_G} {ad adV : Nat → Nat} {cA : Nat → ClassId} {A : Nat → Prop} {Qf : State → Prop} {i : Nat} {L : zL} {S : List zV} {h : zM} {Q : zQ} {K : Nat → zL → List zV → zM → Prop} {R : Nat → List zV → zM → zQ → Prop}
/-- behind a call -/
theorem zc_call {pc : Nat} {ls : Array Slot} {rest st0 : List Value} {a : Array Value} {H : Heap} {locs : List Loc} {RR : Room} {H0 : Heap} {Qz : zQ} (hr : va_Run p l e RR s m args below meth c H locs 0 0 0 0 (F0 m pc ls st0) rest (zc_Qc Qz D ad cA A a) A) (hS : va_S A H0 H locs)
    (kk : ∀ (rv : Option zV) (h2 : zM) (t : State) (H1 : Heap) (locs1 : List Loc), t.heap = H1 → s.vm.Alike t.vm → Qz rv h2 → zc_okO rv → zc_M h2 → zc_B D ad cA A h2 t → va_S A H0 H1 locs1 → W p l e RR s m args below meth c H1 locs1 0 0 Qf (F0 m (pc + 3) ls ((rv.map (zc_v ad)).toList ++ rest))) : W p l e RR s m args below meth c H locs 0 0 Qf (F0 m pc ls st0) := by
  intro T hT X
  obtain ⟨v, st₀, t, T', L, h0, X', hL, e1, e2, ⟨⟨rv, h2, hv, ⟨hp1, hp2, hp3⟩, hb⟩, hz, hk⟩, st⟩ := hr T hT X
  cases hv
  rw [h0] at hz hk
  obtain ⟨t2, a1, b1⟩ := kk rv h2 t T'.heap (locs ++ L) e1.symm (by rw [← e2]; exact X'.warmed.alike) hp1 hp2 hp3 hb
    ⟨Nat.le_trans hS.1 (by rw [e1]; exact hz), fun q h1 h2 => by rw [e1, hk q (Nat.lt_of_lt_of_le h1 hS.1) h2]; exact hS.2.1 q h1 h2, fun q hq => by
      rcases List.mem_append.mp hq with h | h
      · exact hS.2.2 q h
      · exact hL q h⟩ T' rfl X'
  exact ⟨t2, st t2 a1, b1⟩
theorem zc_preOf {H : Heap} {locs : List Loc} {ls : Array Slot} {U : State} (C : zc_C j p s m args meth c D ad adV cA A) (I : zc_I j s D ad cA A L S h H locs ls) (hU : U.heap = H) (hW : s.WarmedH U.vm) : zc_pre D ad adV cA A h U := by
  refine ⟨by rw [hU]; exact I.1.1, va_K.moved hW.alike C.2.2.2.2.2.2.2.1, I.1.2.1, ?_, fun q hq => C.2.2.2.2.2.2.2.2.2 q ?_⟩
  · rw [hU]
    exact (C.2.2.2.2.2.2.2.2.1.warm hW).kept I.1.2.2.2.1
  · rw [hU] at hq
    exact Nat.le_trans I.1.2.2.1 hq
/-- behind a call: on in the shadow -/
theorem zc_back {a : Nat} {As S2 : List zV} {pc : Nat} {st0 : List Value} {aa : Array Value} {H : Heap} {locs : List Loc} {ls : Array Slot} (C : zc_C j p s m args meth c D ad adV cA A) (hn : zx_pc j (i + 1) = pc + 3) (hK : ∀ i2 L2 S2 h2, K i2 L2 S2 h2 → zc_W j p l e s m args below meth c D ad adV cA A Qf i2 L2 S2 h2) (I : zc_I j s D ad cA A L S2 h H locs ls)
    (hr : va_Run p l e (zx_rm j) s m args below meth c H locs 0 0 0 0 (F0 m pc ls st0) (S2.map (zc_v ad)) (zc_Qc (fun rv h' => K (i + 1) L (zx_psh rv S2) h') D ad cA A aa) A) : W p l e (zx_rm j) s m args below meth c H locs 0 0 Qf (F0 m pc ls st0) := by
  refine zc_call hr I.1.2.2 (fun rv h2 t H1 locs1 ht hvm hq hok hM hB hS => ?_)
  have I2 : zc_I j s D ad cA A L (zx_psh rv S2) h2 H1 locs1 ls := by
    refine ⟨⟨by rw [← ht]; exact hB.1, hB.2.2, hS⟩, I.2.1, ?_, hM⟩
    cases rv with
    | none => exact I.2.2.1
    | some v => exact List.forall_mem_cons.mpr ⟨hok v rfl, I.2.2.1⟩
  have := zc_next hK hn hq I2
  cases rv with
  | none => exact this
  | some v => exact this
/-- what a program has checked of a callee -/
theorem zk_c_inv {a n : Nat} {st : Bool} (hc : zk_c j a n st = true) : Cond.code (zx_y a) (zx_by a) (zx_ml a) (zx_rt a) ∈ zc_tb ∧ (if st then Cond.static (zx_y a) else Cond.instanceMethod (zx_y a)) ∈ zc_tb ∧ (st = false → Cond.selects (zc_own a) (zx_y a) (zx_y a) ∈ zc_tb) ∧ Cond.initialized (zc_own a) ∈ zc_tb ∧ (zx_rm a).frames + 1 ≤ (zx_rm j).frames ∧ 8 + (zx_ml a + 11) + (zx_rm a).locals ≤ (zx_rm j).locals ∧ (parseMethodDescriptor (zx_y a).desc).map (fun d => d.parameters.length) = some n ∧ zc_own a ≠ "java/lang/invoke/MethodHandle" ∧ zc_own a ≠ "java/lang/invoke/VarHandle" ∧ zx_sts.contains a = st ∧ a < 204 := by
  simp only [zk_c, Bool.and_eq_true, decide_eq_true_eq, beq_iff_eq, Bool.or_eq_true] at hc
  obtain ⟨⟨⟨⟨⟨⟨⟨⟨⟨⟨h0, h1⟩, h2⟩, h3⟩, h4⟩, h5⟩, h6⟩, h7⟩, h8⟩, h9⟩, h10⟩ := hc
  refine ⟨zk_w_in h1, zk_w_in h2, fun hst => ?_, zk_w_in h4, h5, h6, h7, h8, h9, h10, h0⟩
  rcases h3 with h3 | h3
  · rw [hst] at h3; cases h3
  · exact zk_w_in h3
theorem zc_wsj_in {a n : Nat} {st : Bool} (hc : zk_c j a n st = true) : ∀ w ∈ zc_wsj a, w ∈ zc_tb := by
  intro w hw
  rcases List.mem_cons.mp hw with rfl | hw
  · exact (zk_c_inv hc).1
  · exact hw
theorem zk_l_inv {k a : Nat} {ts : List (Int × Nat)} (hl : zk_l j k a ts = true) : Cond.methodLink (zc_own j) k (zx_y a) ∈ zc_tb ∨ Cond.methodLinkNest (zc_own j) k (zx_y a) "PointMaker" ∈ zc_nw := by
  unfold zk_l at hl
  split at hl
  · exact Or.inl (zk_w_in hl)
  · exact Or.inr (zk_nw_in hl)
  · cases hl
theorem zc_own_cN : ∀ a, a < 204 → zx_cN a ≠ 99 → (vwCl[zx_cN a]?).map (fun q => q.1) = some (zc_own a) := by decide +kernel
theorem zc_own_S : ∀ a, a < 204 → zx_cN a = 99 → zc_own a = "java/lang/String" := by decide +kernel
/-- a receiver stands -/
theorem zc_recv {a r : Nat} {H : Heap} {locs : List Loc} {ls : Array Slot} (C : zc_C j p s m args meth c D ad adV cA A) (I : zc_I j s D ad cA A L S h H locs ls) (ha : a < 204) (hr : zx_rcv a r = true) : ∃ cellB : Cell, H[ad r]? = some cellB ∧ cellB.vm.isStatics = false ∧ s.vm.findClass (zc_own a) = some cellB.cls := by
  simp only [zx_rcv, Bool.or_eq_true, Bool.and_eq_true, beq_iff_eq, decide_eq_true_eq] at hr
  rcases hr with ⟨h1, h2⟩ | ⟨⟨h1, h2⟩, h3⟩
  · have hr : r < 108 := zc_r (by rw [h1]; decide)
    have hs := zc_shp r hr h1
    have hne : zx_cN a ≠ 99 := by
      intro z
      rw [h2, z] at hs
      exact absurd hs (by simp)
    have ho := zc_own_cN a ha hne
    rw [← h2] at ho
    obtain ⟨q, hq⟩ : ∃ q, vwCl[zx_ci r]? = some q := by
      cases hv : vwCl[zx_ci r]? with
      | none => rw [hv] at ho; cases ho
      | some q => exact ⟨q, rfl⟩
    rw [hq] at ho
    have hc : (zc_ws ad cA h)[r]? = some (ad r, .inr (zx_ci r, zc_fs ad h r)) := by rw [zc_at ad cA h hr, zc_el0 h1]
    have := va_recv C.2.2.2.2.2.2.2.1 I.1.1 hq hc
    rw [← Option.some.inj ho]
    exact this
  · rw [zc_own_S a ha h1]
    have := vk_recv (i := r - 1000) C.2.2.2.2.2.2.2.2.1.2.2.1 (by omega) I.1.2.2
    have er : 1000 + (r - 1000) = r := by omega
    simp only [er] at this
    exact this
theorem zs_invokestatic {n pc len a b : Nat} {d : Int} {ts : List (Int × Nat)} (C : zc_C j p s m args meth c D ad adV cA A) (he : zk_e j i (pc, .invokestatic n, len, a, b, d, ts) = true) (hA : zx_act zR (pc, .invokestatic n, len, a, b, d, ts) i L S h Q K) (hK : ∀ i2 L2 S2 h2, K i2 L2 S2 h2 → zc_W j p l e s m args below meth c D ad adV cA A Qf i2 L2 S2 h2) : zc_W j p l e s m args below meth c D ad adV cA A Qf i L S h := by
  intro H locs ls I
  simp only [zk_e, Bool.and_eq_true, decide_eq_true_eq, zk_s, zk_d] at he
  obtain ⟨hpc, ⟨⟨hd, hn⟩, hc⟩, hl⟩ := he
  obtain ⟨As, S2, hS, hlen, hk⟩ := zx_tk_inv _ _ _ hA
  rw [List.append_nil] at hk
  obtain ⟨hlow, -, hk⟩ := zx_low_inv hk
  obtain ⟨k1, k2, -, k4, k5, k6, k7, k8, k9, k10, k11⟩ := zk_c_inv hc
  have hws := zc_wsj_in hc
  have hokA : zc_okS As := fun v hv => I.2.2.1 v (by rw [hS]; exact List.mem_append_left _ (List.mem_reverse.mpr hv))
  have hok2 : zc_okS S2 := fun v hv => I.2.2.1 v (by rw [hS]; exact List.mem_append_right _ hv)
  have hM := hk hokA I.2.2.2 l D ad adV cA A
  rw [hpc]
  have hst : S.map (zc_v ad) = (As.map (zc_v ad)).reverse ++ S2.map (zc_v ad) := by rw [hS, List.map_append, List.map_reverse]
  rw [hst]
  have hcat := zc_cats ad S2
  have hp : PreS s H (va_Pc (As.map (zc_v ad)) (zc_pre D ad adV cA A h)) (As.map (zc_v ad)) := ⟨zc_blind, fun U hU hW => ⟨rfl, zc_preOf C I hU hW⟩⟩
  refine zc_back (a := a) (As := As) (aa := (As.map (zc_v ad)).toArray) C hn hK (S2 := S2) ⟨I.1, I.2.1, hok2, I.2.2.2⟩ ?_
  rcases zk_l_inv hl with hl | hl
  · refine va_runS (y := zx_y a) (bytes := zx_by a) (maxL := zx_ml a) (ret := zx_rt a) (ws := zc_wsj a) (rm := zx_rm a) (Ts := zc_tb) (own := zc_own j) (n := b) (nL := zx_ml j) ⟨C.1, C.2.1, C.2.2.2.1, C.2.2.2.2.1, C.2.2.2.2.2.1⟩ hM ?_ hp rfl (by rw [List.length_map]; exact hlen) I.2.1.1.size rfl (by show 2 * 0 + _ ≤ 8; omega) hd ⟨Nat.zero_le _, Nat.zero_le _⟩
    exact ⟨callB_of b C.2.2.2.2.2.1 (zc_goodIn hws) rfl rfl rfl (C.2.2.2.2.2.1 _ k4) (C.2.2.2.2.2.1 _ hl) ⟨k8, k9, k7⟩ ⟨k5, k6⟩, C.2.2.2.2.2.1 _ k2⟩
  · refine va_runSN (y := zx_y a) (bytes := zx_by a) (maxL := zx_ml a) (ret := zx_rt a) (ws := zc_wsj a) (rm := zx_rm a) (Ts := zc_tb) (own := zc_own j) (host := "PointMaker") (n := b) (nL := zx_ml j) ⟨C.1, C.2.1, C.2.2.2.1, C.2.2.2.2.1, C.2.2.2.2.2.1⟩ hM ?_ hp rfl (by rw [List.length_map]; exact hlen) I.2.1.1.size rfl (by show 2 * 0 + _ ≤ 8; omega) hd ⟨Nat.zero_le _, Nat.zero_le _⟩
    exact ⟨va_cnB b C.2.2.2.2.2.1 (zc_goodIn hws) rfl rfl rfl (C.2.2.2.2.2.2.2.2.1.1 _ hl) (C.2.2.2.2.2.1 _ k4) ⟨k8, k9, k7⟩ ⟨k5, k6⟩, C.2.2.2.2.2.1 _ k2, trivial⟩
theorem zs_invokevirtual {n pc len a b : Nat} {d : Int} {ts : List (Int × Nat)} (C : zc_C j p s m args meth c D ad adV cA A) (he : zk_e j i (pc, .invokevirtual n, len, a, b, d, ts) = true) (hA : zx_act zR (pc, .invokevirtual n, len, a, b, d, ts) i L S h Q K) (hK : ∀ i2 L2 S2 h2, K i2 L2 S2 h2 → zc_W j p l e s m args below meth c D ad adV cA A Qf i2 L2 S2 h2) : zc_W j p l e s m args below meth c D ad adV cA A Qf i L S h := by
  intro H locs ls I
  simp only [zk_e, Bool.and_eq_true, decide_eq_true_eq, zk_s, zk_d] at he
  obtain ⟨hpc, ⟨⟨⟨hd, hn⟩, hc⟩, hl⟩, hb0⟩ := he
  obtain ⟨As, S2, hS, hlen, hk⟩ := zx_tk_inv _ _ _ hA
  rw [List.append_nil] at hk
  obtain ⟨hlow, hrc, hk⟩ := zx_low_inv hk
  obtain ⟨k1, k2, k3, k4, k5, k6, k7, k8, k9, k10, k11⟩ := zk_c_inv hc
  have hws := zc_wsj_in hc
  have hokA : zc_okS As := fun v hv => I.2.2.1 v (by rw [hS]; exact List.mem_append_left _ (List.mem_reverse.mpr hv))
  have hok2 : zc_okS S2 := fun v hv => I.2.2.1 v (by rw [hS]; exact List.mem_append_right _ hv)
  have hM := hk hokA I.2.2.2 l D ad adV cA A
  rcases hrc with hrc | ⟨r, As2, rfl, hrc⟩
  · rw [k10] at hrc; cases hrc
  have hre := zc_recv C I k11 hrc
  rw [hpc]
  have hst : S.map (zc_v ad) = (As2.map (zc_v ad)).reverse ++ Value.ref (ad r) :: S2.map (zc_v ad) := by
    rw [hS]
    simp [zc_v]
  rw [hst]
  have hcat := zc_cats ad S2
  have hl2 : As2.length = b - 1 := by simp at hlen; omega
  have hp : PreV s H (zc_own a) (ad r) (va_Pc ((Sum.inr (Sum.inr r) :: As2).map (zc_v ad)) (zc_pre D ad adV cA A h)) (As2.map (zc_v ad)) := ⟨zc_blind, hre, fun U hU hW => ⟨rfl, zc_preOf C I hU hW⟩⟩
  refine zc_back (a := a) (As := As2) (aa := (Value.ref (ad r) :: As2.map (zc_v ad)).toArray) C hn hK (S2 := S2) ⟨I.1, I.2.1, hok2, I.2.2.2⟩ ?_
  rcases zk_l_inv hl with hl | hl
  · refine va_runV (y := zx_y a) (bytes := zx_by a) (maxL := zx_ml a) (ret := zx_rt a) (ws := zc_wsj a) (rm := zx_rm a) (Ts := zc_tb) (own := zc_own j) (C := zc_own a) (n := b - 1) (nL := zx_ml j) ⟨C.1, C.2.1, C.2.2.2.1, C.2.2.2.2.1, C.2.2.2.2.2.1⟩ hM ?_ hp rfl (by rw [List.length_map]; exact hl2) I.2.1.1.size rfl (by show 2 * 0 + _ ≤ 8; omega) hd ⟨Nat.zero_le _, Nat.zero_le _⟩
    exact ⟨callB_of (b - 1) C.2.2.2.2.2.1 (zc_goodIn hws) rfl rfl rfl (C.2.2.2.2.2.1 _ k4) (C.2.2.2.2.2.1 _ hl) ⟨k8, k9, k7⟩ ⟨k5, k6⟩, C.2.2.2.2.2.1 _ k2, C.2.2.2.2.2.1 _ (k3 rfl)⟩
  · refine va_runVN (y := zx_y a) (bytes := zx_by a) (maxL := zx_ml a) (ret := zx_rt a) (ws := zc_wsj a) (rm := zx_rm a) (Ts := zc_tb) (own := zc_own j) (C := zc_own a) (host := "PointMaker") (n := b - 1) (nL := zx_ml j) ⟨C.1, C.2.1, C.2.2.2.1, C.2.2.2.2.1, C.2.2.2.2.2.1⟩ hM ?_ hp rfl (by rw [List.length_map]; exact hl2) I.2.1.1.size rfl (by show 2 * 0 + _ ≤ 8; omega) hd ⟨Nat.zero_le _, Nat.zero_le _⟩
    exact ⟨va_cnB (b - 1) C.2.2.2.2.2.1 (zc_goodIn hws) rfl rfl rfl (C.2.2.2.2.2.2.2.2.1.1 _ hl) (C.2.2.2.2.2.1 _ k4) ⟨k8, k9, k7⟩ ⟨k5, k6⟩, C.2.2.2.2.2.1 _ k2, C.2.2.2.2.2.1 _ (k3 rfl)⟩
end ZU
end
section
/-! SWITCHES -/
theorem zx_sw_tab {j pc : Nat} {x : Int} {k : Nat → Prop} {dflt : Nat} : ∀ (os : List Int) (lo : Int) (ts : List (Int × Nat)), zk_tab j pc lo os ts = true → zx_sw x k ts dflt → ((x < lo ∨ lo + (os.length : Int) ≤ x) ∧ k dflt) ∨ (lo ≤ x ∧ ∃ o t, os[(x - lo).toNat]? = some o ∧ (pc : Int) + o = (zx_pc j t : Int) ∧ k t)
  | [], lo, [], _, h => Or.inl ⟨by simp; omega, h⟩
  | [], lo, _ :: _, hz, _ => by simp [zk_tab] at hz
  | _ :: _, lo, [], hz, _ => by simp [zk_tab] at hz
  | o :: os, lo, (v, t) :: ts, hz, h => by
    simp only [zk_tab, zk_t, Bool.and_eq_true, decide_eq_true_eq] at hz
    obtain ⟨⟨hv, ht⟩, hz⟩ := hz
    by_cases c : x = v
    · refine Or.inr ⟨by omega, o, t, ?_, ht, h.1 c⟩
      rw [show (x - lo).toNat = 0 by omega]
      rfl
    · rcases zx_sw_tab os (lo + 1) ts hz (h.2 c) with ⟨h1, h2⟩ | ⟨h1, o2, t2, h2, h3, h4⟩
      · refine Or.inl ⟨?_, h2⟩
        simp only [List.length_cons]
        omega
      · refine Or.inr ⟨by omega, o2, t2, ?_, h3, h4⟩
        rw [show (x - lo).toNat = (x - (lo + 1)).toNat + 1 by omega]
        exact h2
theorem zx_sw_lkp {j pc : Nat} {x : Int} {k : Nat → Prop} {dflt : Nat} {od : Int} (hd : (pc : Int) + od = (zx_pc j dflt : Int)) : ∀ (os : List (Int × Int)) (ts : List (Int × Nat)), zk_lkp j pc os ts = true → zx_sw x k ts dflt → ∃ t, (pc : Int) + Op.lookupswitch.offset os od x = (zx_pc j t : Int) ∧ k t
  | [], [], _, h => ⟨dflt, by rw [show Op.lookupswitch.offset [] od x = od from rfl]; exact hd, h⟩
  | [], _ :: _, hz, _ => by simp [zk_lkp] at hz
  | _ :: _, [], hz, _ => by simp [zk_lkp] at hz
  | (w, o) :: os, (v, t) :: ts, hz, h => by
    simp only [zk_lkp, zk_t, Bool.and_eq_true, decide_eq_true_eq] at hz
    obtain ⟨⟨hv, ht⟩, hz⟩ := hz
    by_cases c : x = v
    · refine ⟨t, ?_, h.1 c⟩
      rw [Op.lookupswitch.offset_cons, if_pos (by omega)]
      exact ht
    · obtain ⟨t2, h1, h2⟩ := zx_sw_lkp hd os ts hz (h.2 c)
      refine ⟨t2, ?_, h2⟩
      rw [Op.lookupswitch.offset_cons, if_neg (by omega)]
      exact h1
theorem zk_m_inv {j : Nat} {ts : List (Int × Nat)} {y : MethodName} {lo : Nat} (h : zk_m j ts y lo = true) : Cond.methodLink (zc_own j) (zk_ix ts) y ∈ zc_tb ∧ 1 ≤ (zx_rm j).frames ∧ 8 + lo ≤ (zx_rm j).locals := by
  unfold zk_m at h
  split at h
  · simp only [Bool.and_eq_true, decide_eq_true_eq] at h
    exact ⟨zk_w_in h.1.1, h.1.2, h.2⟩
  · cases h
theorem zk_ret_inv {j : Nat} {v : Bool} (h : zk_ret j v = true) : ∃ n, zx_rt j = some (.object n) := by
  unfold zk_ret at h
  split at h
  · rename_i n hn
    exact ⟨n, hn⟩
  · cases h
section ZV
variable {j : Nat} {p : Program} {l : Launch} {e : Env} {s : State} {m : MethodId} {args : Array Value} {below : List Frame} {meth : Method} {c : Code} {D : va_G} {ad adV : Nat → Nat} {cA : Nat → ClassId} {A : Nat → Prop} {Qf : State → Prop} {i : Nat} {L : zL} {S : List zV} {h : zM} {Q : zQ} {K : Nat → zL → List zV → zM → Prop} {R : Nat → List zV → zM → zQ → Prop}
theorem zs_tableswitch {n lo hi : Int} {os : Array Int} {pc len a b : Nat} {d : Int} {ts : List (Int × Nat)} (C : zc_C j p s m args meth c D ad adV cA A) (he : zk_e j i (pc, .tableswitch n lo hi os, len, a, b, d, ts) = true) (hA : zx_act R (pc, .tableswitch n lo hi os, len, a, b, d, ts) i L S h Q K) (hK : ∀ i2 L2 S2 h2, K i2 L2 S2 h2 → zc_W j p l e s m args below meth c D ad adV cA A Qf i2 L2 S2 h2) : zc_W j p l e s m args below meth c D ad adV cA A Qf i L S h := by
  intro H locs ls I
  simp only [zk_e, Bool.and_eq_true, decide_eq_true_eq, zk_d, zk_t] at he
  obtain ⟨hpc, ⟨⟨hd, ht⟩, htab⟩, hhi⟩ := he
  obtain ⟨x, S2, rfl, hk⟩ := zx_p1_inv hA
  have hx : (Int32.ofInt x).toInt = x := zc_io I.top
  rw [hpc]
  rcases zx_sw_tab _ _ _ htab hk with ⟨h1, h2⟩ | ⟨h1, o, t, h2, h3, h4⟩
  · refine lv_tableOut (x := Int32.ofInt x) (rest := S2.map (zc_v ad)) C.1 C.2.1 hd (by rw [hx]; simp at h1; omega) ht ?_
    exact zc_next hK rfl h2 I.rest
  · have hlt : (x - lo).toNat < os.size := by
      have := (List.getElem?_eq_some_iff.mp h2).1
      simpa using this
    refine lv_tableIn (x := Int32.ofInt x) (off := o) (rest := S2.map (zc_v ad)) C.1 C.2.1 hd (by rw [hx]; omega) (by rw [hx]; omega) (by rw [hx]; simpa using h2) h3 ?_
    exact zc_next hK rfl h4 I.rest
theorem zs_lookupswitch {n : Int} {os : Array (Int × Int)} {pc len a b : Nat} {d : Int} {ts : List (Int × Nat)} (C : zc_C j p s m args meth c D ad adV cA A) (he : zk_e j i (pc, .lookupswitch n os, len, a, b, d, ts) = true) (hA : zx_act R (pc, .lookupswitch n os, len, a, b, d, ts) i L S h Q K) (hK : ∀ i2 L2 S2 h2, K i2 L2 S2 h2 → zc_W j p l e s m args below meth c D ad adV cA A Qf i2 L2 S2 h2) : zc_W j p l e s m args below meth c D ad adV cA A Qf i L S h := by
  intro H locs ls I
  simp only [zk_e, Bool.and_eq_true, decide_eq_true_eq, zk_d, zk_t] at he
  obtain ⟨hpc, ⟨⟨hd, ht⟩, htab⟩, hso⟩ := he
  obtain ⟨x, S2, rfl, hk⟩ := zx_p1_inv hA
  have hx : (Int32.ofInt x).toInt = x := zc_io I.top
  rw [hpc]
  obtain ⟨t, h1, h2⟩ := zx_sw_lkp ht _ _ htab hk
  refine lv_lookup (x := Int32.ofInt x) (off := Op.lookupswitch.offset os.toList n x) (rest := S2.map (zc_v ad)) C.1 C.2.1 hd hso (by rw [hx]) h1 ?_
  exact zc_next hK rfl h2 I.rest
theorem zs_monitorenter {pc len a b : Nat} {d : Int} {ts : List (Int × Nat)} (C : zc_C j p s m args meth c D ad adV cA A) (he : zk_e j i (pc, .monitorenter, len, a, b, d, ts) = true) (hA : zx_act R (pc, .monitorenter, len, a, b, d, ts) i L S h Q K) (hK : ∀ i2 L2 S2 h2, K i2 L2 S2 h2 → zc_W j p l e s m args below meth c D ad adV cA A Qf i2 L2 S2 h2) : zc_W j p l e s m args below meth c D ad adV cA A Qf i L S h := by
  intro H locs ls I
  simp only [zk_e, Bool.and_eq_true, decide_eq_true_eq, zk_s, zk_d] at he
  obtain ⟨hpc, ⟨hd, hn⟩, hm⟩ := he
  obtain ⟨x, y, S2, rfl, hk⟩ := zx_p2_inv hA
  obtain ⟨hlow, hk⟩ := zx_low_inv hk
  obtain ⟨m1, m2, m3⟩ := zk_m_inv hm
  have hcat := zc_cats ad S2
  have hy : zc_i y := I.top
  have hx : zc_i x := I.rest.top
  rw [hpc]
  refine va_mmax (x := Int32.ofInt x) (y := Int32.ofInt y) (rest := S2.map (zc_v ad)) C.1 C.2.1 (C.2.2.2.1.trans I.2.1.1.size.symm) C.2.2.2.2.1 (C.2.2.2.2.2.1 _ m1) (C.2.2.2.2.2.1 _ (zc_tbI zc_wmax.1 rfl)) (C.2.2.2.2.2.1 _ (zc_tbI zc_wmax.2.1 rfl)) (C.2.2.2.2.2.1 _ (zc_tbI zc_wmax.2.2 rfl)) m2 (by omega) (Nat.zero_le _) (Nat.zero_le _) hd ?_
  have ee : (if Int32.ofInt x < Int32.ofInt y then Int32.ofInt y else Int32.ofInt x) = Int32.ofInt (if x < y then y else x) := by
    by_cases q : x < y
    · rw [if_pos q, if_pos ((zc_lt hx hy).mpr q)]
    · rw [if_neg q, if_neg (fun z => q ((zc_lt hx hy).mp z))]
  rw [ee]
  exact zc_next hK hn hk (I.rest.rest.push (v := .inl _) (by by_cases q : x < y <;> simp only [q, if_true, if_false] <;> assumption))
theorem zs_monitorexit {pc len a b : Nat} {d : Int} {ts : List (Int × Nat)} (C : zc_C j p s m args meth c D ad adV cA A) (he : zk_e j i (pc, .monitorexit, len, a, b, d, ts) = true) (hA : zx_act R (pc, .monitorexit, len, a, b, d, ts) i L S h Q K) (hK : ∀ i2 L2 S2 h2, K i2 L2 S2 h2 → zc_W j p l e s m args below meth c D ad adV cA A Qf i2 L2 S2 h2) : zc_W j p l e s m args below meth c D ad adV cA A Qf i L S h := by
  intro H locs ls I
  simp only [zk_e, Bool.and_eq_true, decide_eq_true_eq, zk_s, zk_d] at he
  obtain ⟨hpc, ⟨hd, hn⟩, hm⟩ := he
  obtain ⟨x, y, S2, rfl, hk⟩ := zx_p2_inv hA
  obtain ⟨hlow, hk⟩ := zx_low_inv hk
  obtain ⟨m1, m2, m3⟩ := zk_m_inv hm
  have hcat := zc_cats ad S2
  have hy : zc_i y := I.top
  have hx : zc_i x := I.rest.top
  rw [hpc]
  refine va_mmin (x := Int32.ofInt x) (y := Int32.ofInt y) (rest := S2.map (zc_v ad)) C.1 C.2.1 (C.2.2.2.1.trans I.2.1.1.size.symm) C.2.2.2.2.1 (C.2.2.2.2.2.1 _ m1) (C.2.2.2.2.2.1 _ (zc_tbI zc_wmin.1 rfl)) (C.2.2.2.2.2.1 _ (zc_tbI zc_wmax.2.1 rfl)) (C.2.2.2.2.2.1 _ (zc_tbI zc_wmin.2 rfl)) m2 (by omega) (Nat.zero_le _) (Nat.zero_le _) hd ?_
  have ee : (if Int32.ofInt y < Int32.ofInt x then Int32.ofInt y else Int32.ofInt x) = Int32.ofInt (if y < x then y else x) := by
    by_cases q : y < x
    · rw [if_pos q, if_pos ((zc_lt hy hx).mpr q)]
    · rw [if_neg q, if_neg (fun z => q ((zc_lt hy hx).mp z))]
  rw [ee]
  exact zc_next hK hn hk (I.rest.rest.push (v := .inl _) (by by_cases q : y < x <;> simp only [q, if_true, if_false] <;> assumption))
theorem zs_swap {pc len a b : Nat} {d : Int} {ts : List (Int × Nat)} (C : zc_C j p s m args meth c D ad adV cA A) (he : zk_e j i (pc, .swap, len, a, b, d, ts) = true) (hA : zx_act R (pc, .swap, len, a, b, d, ts) i L S h Q K) (hK : ∀ i2 L2 S2 h2, K i2 L2 S2 h2 → zc_W j p l e s m args below meth c D ad adV cA A Qf i2 L2 S2 h2) : zc_W j p l e s m args below meth c D ad adV cA A Qf i L S h := by
  intro H locs ls I
  simp only [zk_e, Bool.and_eq_true, decide_eq_true_eq, zk_s, zk_d] at he
  obtain ⟨hpc, ⟨hd, hn⟩, hm⟩ := he
  obtain ⟨n, dp, r2, sp, r, S2, rfl, ⟨ht, ht2, h1, h2, h3, h4, h5⟩, hk⟩ : ∃ n dp r2 sp r S2, S = .inl n :: .inl dp :: .inr (.inr r2) :: .inl sp :: .inr (.inr r) :: S2 ∧ (zx_tg r = 1 ∧ zx_tg r2 = 1 ∧ 0 ≤ sp ∧ 0 ≤ dp ∧ 0 ≤ n ∧ sp + n ≤ zx_ln r ∧ dp + n ≤ zx_ln r2) ∧ zx_low S2 (K (i + 1) L S2 (zx_cp h r sp r2 dp n)) := by
    simp only [zx_act] at hA
    split at hA
    · exact ⟨_, _, _, _, _, _, rfl, hA⟩
    · exact hA.elim
  obtain ⟨hlow, hk⟩ := zx_low_inv hk
  obtain ⟨m1, m2, m3⟩ := zk_m_inv hm
  have hcat := zc_cats ad S2
  have q1 : zc_i n := I.top
  have q2 : zc_i dp := I.rest.top
  have q3 : zc_i sp := I.rest.rest.rest.top
  have hr2 : r2 < 108 := zc_r (by rw [ht2]; decide)
  have e4 : sp + n ≤ (zx_n r : Int) := h4
  have e5 : dp + n ≤ (zx_n r2 : Int) := h5
  rw [hpc]
  refine va_copyi (ty := .int) (rest := S2.map (zc_v ad)) C.1 C.2.1 (C.2.2.2.1.trans I.2.1.1.size.symm) C.2.2.2.2.1 (C.2.2.2.2.2.1 _ m1) (C.2.2.2.2.2.1 _ (zc_tbI zc_wcpy.1 rfl)) (C.2.2.2.2.2.1 _ (zc_tbI zc_wcpy.2.1 rfl)) (C.2.2.2.2.2.1 _ (zc_tbI zc_wcpy.2.2 rfl)) C.2.2.2.2.2.2.2.1 I.1.1 I.1.2.1 I.1.2.2 r r2 1 1 (zc_c1 ht) (zc_c1 ht2) rfl rfl rfl (fun z => by have := (zc_lt0 q3).mp z; omega) (fun z => by have := (zc_lt0 q2).mp z; omega) (fun z => by have := (zc_lt0 q1).mp z; omega) (by rw [zc_cl q3, zc_cl q1]; omega) (by rw [zc_cl q2, zc_cl q1]; omega) (fun _ _ => rfl) m2 (by omega) hd (fun H1 locs1 hP hD hS => ?_)
  rw [zc_cl q3, zc_cl q2, zc_cl q1, zc_cpy h1 h2 h3] at hP hD
  have ee : (zc_ws ad cA h).set r2 (ad r2, .inl (cA 1, zx_n r2, .inl (fun k : Nat => Int32.ofInt (zx_cp h r sp r2 dp n r2 (k : Int))))) = zc_ws ad cA (zx_cp h r sp r2 dp n) :=
    zc_set hr2 (by rw [zc_el1 ht2]) (fun q _ hne => zc_el_of (fun k => if_neg (fun z => hne z.1)))
  rw [ee] at hP hD
  exact zc_next hK hn hk ⟨⟨hP, hD, hS⟩, I.2.1, I.rest.rest.rest.rest.rest.2.2.1, zc_cp_M I.2.2.2⟩
/-! ANSWERS -/
theorem zc_end {H : Heap} {locs : List Loc} {ls : Array Slot} {rv : Option zV} {t : State} (C : zc_C j p s m args meth c D ad adV cA A) (I : zc_I j s D ad cA A L S h H locs ls) (hq : Q rv h) (hok : zc_okO rv) (ht : t.heap = H) (hW : s.WarmedH t.vm) : zc_Qc Q D ad cA A args s (.returned (rv.map (zc_v ad))) t :=
  ⟨⟨rv, h, rfl, ⟨hq, hok, I.2.2.2⟩, by rw [ht]; exact I.1.1, va_K.moved hW.alike C.2.2.2.2.2.2.2.1, I.1.2.1⟩, I.1.2.2.F ht⟩
theorem zs_ireturn {pc len a b : Nat} {d : Int} {ts : List (Int × Nat)} (C : zc_C j p s m args meth c D ad adV cA A) (he : zk_e j i (pc, .ireturn, len, a, b, d, ts) = true) (hA : zx_act R (pc, .ireturn, len, a, b, d, ts) i L S h Q K) : zc_W j p l e s m args below meth c D ad adV cA A (MQ below (zc_Qc Q D ad cA A) args s 0 0 A) i L S h := by
  intro H locs ls I
  simp only [zk_e, Bool.and_eq_true, decide_eq_true_eq, zk_d] at he
  obtain ⟨hpc, hd, hr⟩ := he
  obtain ⟨x, rfl, hq⟩ : ∃ x, S = [.inl x] ∧ Q (some (.inl x)) h := by
    simp only [zx_act] at hA
    split at hA
    · exact ⟨_, rfl, hA⟩
    · exact hA.elim
  rw [hpc]
  exact W.iret (v := Int32.ofInt x) C.1 C.2.1 (C.2.2.1.trans hr) (fun t ht hW => zc_end (rv := some (.inl x)) C I hq (fun v hv => by cases hv; exact I.top) ht hW) I.1.2.2.2.2 hd C.2.2.2.2.2.2.1
theorem zs_freturn {pc len a b : Nat} {d : Int} {ts : List (Int × Nat)} (C : zc_C j p s m args meth c D ad adV cA A) (he : zk_e j i (pc, .freturn, len, a, b, d, ts) = true) (hA : zx_act R (pc, .freturn, len, a, b, d, ts) i L S h Q K) : zc_W j p l e s m args below meth c D ad adV cA A (MQ below (zc_Qc Q D ad cA A) args s 0 0 A) i L S h := by
  intro H locs ls I
  simp only [zk_e, Bool.and_eq_true, decide_eq_true_eq, zk_d] at he
  obtain ⟨hpc, hd, hr⟩ := he
  obtain ⟨x, rfl, h01, hq⟩ : ∃ x, S = [.inl x] ∧ (x = 0 ∨ x = 1) ∧ Q (some (.inl x)) h := by
    simp only [zx_act] at hA
    split at hA
    · exact ⟨_, rfl, hA⟩
    · exact hA.elim
  rw [hpc]
  exact W.zret (v := Int32.ofInt x) (ty := .boolean) C.1 C.2.1 (C.2.2.1.trans hr) (by rcases h01 with rfl | rfl <;> decide) (fun t ht hW => zc_end (rv := some (.inl x)) C I hq (fun v hv => by cases hv; exact I.top) ht hW) I.1.2.2.2.2 hd C.2.2.2.2.2.2.1
theorem zs_areturn {pc len a b : Nat} {d : Int} {ts : List (Int × Nat)} (C : zc_C j p s m args meth c D ad adV cA A) (he : zk_e j i (pc, .areturn, len, a, b, d, ts) = true) (hA : zx_act R (pc, .areturn, len, a, b, d, ts) i L S h Q K) : zc_W j p l e s m args below meth c D ad adV cA A (MQ below (zc_Qc Q D ad cA A) args s 0 0 A) i L S h := by
  intro H locs ls I
  simp only [zk_e, Bool.and_eq_true, decide_eq_true_eq, zk_d] at he
  obtain ⟨hpc, hd, hr⟩ := he
  obtain ⟨nm, hr⟩ := zk_ret_inv hr
  obtain ⟨x, rfl, hq⟩ : ∃ x, S = [.inr (.inr x)] ∧ Q (some (.inr (.inr x))) h := by
    simp only [zx_act] at hA
    split at hA
    · exact ⟨_, rfl, hA⟩
    · exact hA.elim
  rw [hpc]
  exact W.aret (v := Value.ref (ad x)) C.1 C.2.1 (C.2.2.1.trans hr) (Or.inl ⟨nm, rfl⟩) (Or.inr ⟨_, rfl⟩) (fun t ht hW => zc_end (rv := some (.inr (.inr x))) C I hq (fun v hv => by cases hv; trivial) ht hW) I.1.2.2.2.2 hd C.2.2.2.2.2.2.1
theorem zs_return {pc len a b : Nat} {d : Int} {ts : List (Int × Nat)} (C : zc_C j p s m args meth c D ad adV cA A) (he : zk_e j i (pc, .return_, len, a, b, d, ts) = true) (hA : zx_act R (pc, .return_, len, a, b, d, ts) i L S h Q K) : zc_W j p l e s m args below meth c D ad adV cA A (MQ below (zc_Qc Q D ad cA A) args s 0 0 A) i L S h := by
  intro H locs ls I
  simp only [zk_e, Bool.and_eq_true, decide_eq_true_eq, zk_d] at he
  obtain ⟨hpc, hd, hr⟩ := he
  obtain ⟨rfl, hq⟩ : S = [] ∧ Q none h := by
    simp only [zx_act] at hA
    split at hA
    · exact ⟨rfl, hA⟩
    · exact hA.elim
  rw [hpc]
  exact W.vret C.1 C.2.1 (C.2.2.1.trans hr) (fun t ht hW => zc_end (rv := none) C I hq (fun v hv => by cases hv) ht hW) I.1.2.2.2.2 hd C.2.2.2.2.2.2.1
set_option maxHeartbeats 4000000 in
/-- ONE STEP of the shadow is one of the machine -/
theorem zc_step {w : zE} (C : zc_C j p s m args meth c D ad adV cA A) (he : zk_e j i w = true) (hA : zx_act zR w i L S h Q K) (hK : ∀ i2 L2 S2 h2, K i2 L2 S2 h2 → zc_W j p l e s m args below meth c D ad adV cA A (MQ below (zc_Qc Q D ad cA A) args s 0 0 A) i2 L2 S2 h2) : zc_W j p l e s m args below meth c D ad adV cA A (MQ below (zc_Qc Q D ad cA A) args s 0 0 A) i L S h := by
  obtain ⟨pc, ins, len, a, b, d, ts⟩ := w
  cases ins
  case iload n => exact zs_iload C he hA hK
  case iload_n n => exact zs_iload_n C he hA hK
  case lload n => exact zs_lload C he hA hK
  case lload_n n => exact zs_lload_n C he hA hK
  case aload n => exact zs_aload C he hA hK
  case aload_n n => exact zs_aload_n C he hA hK
  case iconst n => exact zs_iconst C he hA hK
  case bipush n => exact zs_bipush C he hA hK
  case sipush n => exact zs_sipush C he hA hK
  case lconst n => exact zs_lconst C he hA hK
  case ldc2_w n => exact zs_ldc2_w C he hA hK
  case ldc n => exact zs_ldc C he hA hK
  case ldc_w n => exact zs_ldc_w C he hA hK
  case istore n => exact zs_istore C he hA hK
  case istore_n n => exact zs_istore_n C he hA hK
  case astore n => exact zs_astore C he hA hK
  case astore_n n => exact zs_astore_n C he hA hK
  case lstore n => exact zs_lstore C he hA hK
  case iinc n v => exact zs_iinc C he hA hK
  case iadd => exact zs_iadd C he hA hK
  case isub => exact zs_isub C he hA hK
  case imul => exact zs_imul C he hA hK
  case fadd => exact zs_fadd C he hA hK
  case fsub => exact zs_fsub C he hA hK
  case fmul => exact zs_fmul C he hA hK
  case iand => exact zs_iand C he hA hK
  case ior => exact zs_ior C he hA hK
  case ixor => exact zs_ixor C he hA hK
  case ishl => exact zs_ishl C he hA hK
  case ishr => exact zs_ishr C he hA hK
  case iushr => exact zs_iushr C he hA hK
  case idiv => exact zs_idiv C he hA hK
  case irem => exact zs_irem C he hA hK
  case i2b => exact zs_i2b C he hA hK
  case d2i => exact zs_d2i C he hA hK
  case i2s => exact zs_i2s C he hA hK
  case i2l => exact zs_i2l C he hA hK
  case l2i => exact zs_l2i C he hA hK
  case ladd => exact zs_ladd C he hA hK
  case lcmp => exact zs_lcmp C he hA hK
  case dup => exact zs_dup C he hA hK
  case dup2 => exact zs_dup2 C he hA hK
  case pop => exact zs_pop C he hA hK
  case goto n => exact zs_goto C he hA hK
  case ifCond q n => exact zs_ifCond C he hA hK
  case if_icmp q n => exact zs_if_icmp C he hA hK
  case tableswitch n lo hi os => exact zs_tableswitch C he hA hK
  case lookupswitch n os => exact zs_lookupswitch C he hA hK
  case getfield n => exact zs_getfield C he hA hK
  case putfield n => exact zs_putfield C he hA hK
  case putstatic n => exact zs_putstatic C he hA hK
  case arraylength => exact zs_arraylength C he hA hK
  case iaload => exact zs_iaload C he hA hK
  case baload => exact zs_baload C he hA hK
  case saload => exact zs_saload C he hA hK
  case aaload => exact zs_aaload C he hA hK
  case iastore => exact zs_iastore C he hA hK
  case bastore => exact zs_bastore C he hA hK
  case sastore => exact zs_sastore C he hA hK
  case monitorenter => exact zs_monitorenter C he hA hK
  case monitorexit => exact zs_monitorexit C he hA hK
  case swap => exact zs_swap C he hA hK
  case invokevirtual n => exact zs_invokevirtual C he hA hK
  case invokestatic n => exact zs_invokestatic C he hA hK
  case ireturn => exact zs_ireturn C he hA
  case freturn => exact zs_freturn C he hA
  case areturn => exact zs_areturn C he hA
  case return_ => exact zs_return C he hA
  all_goals exact False.elim hA
end ZV
end
section
/-! A WALK of the shadow is one of the machine; a method's contract out of it -/
def zk_rows (j : Nat) : List (Bool × zE) → Nat → Bool
  | [], _ => true
  | (_, w) :: T, i => zk_e j i w && zk_rows j T (i + 1)
def zk_meth (j : Nat) : Bool := zk_rows j (zx_cd j) 0 && decide (zx_pc j 0 = 0) && plainName (zc_own j)
theorem zk_rows_at {j : Nat} {fl : Bool} {w : zE} : ∀ (T : List (Bool × zE)) (k i : Nat), zk_rows j T k = true → zx_at T i = some (fl, w) → zk_e j (k + i) w = true
  | [], _, _, _, h => by simp [zx_at] at h
  | (_, v) :: T, k, 0, hz, h => by
    simp only [zk_rows, Bool.and_eq_true] at hz
    simp only [zx_at, Option.some.injEq, Prod.mk.injEq] at h
    rw [← h.2]
    exact hz.1
  | (_, v) :: T, k, i + 1, hz, h => by
    simp only [zk_rows, Bool.and_eq_true] at hz
    have := zk_rows_at T (k + 1) i hz.2 h
    rw [show k + (i + 1) = k + 1 + i by omega]
    exact this
/-- the locals with which a method begins -/
def zx_en : List zV → Nat → zL
  | [], n => List.replicate n none
  | .inl x :: As, n => some (.inl x) :: zx_en As (n - 1)
  | .inr (.inl x) :: As, n => some (.inr (.inl x)) :: none :: zx_en As (n - 2)
  | .inr (.inr x) :: As, n => some (.inr (.inr x)) :: zx_en As (n - 1)
def zx_sz : List zV → Nat
  | [] => 0
  | .inl _ :: As => zx_sz As + 1
  | .inr (.inl _) :: As => zx_sz As + 2
  | .inr (.inr _) :: As => zx_sz As + 1
theorem zx_lk_rep : ∀ (n i : Nat) (v : zV), zx_lk (List.replicate n none) i = some v → False
  | 0, i, v, h => by simp [zx_lk] at h
  | n + 1, 0, v, h => by simp [List.replicate_succ, zx_lk] at h
  | n + 1, i + 1, v, h => by
    rw [List.replicate_succ] at h
    exact zx_lk_rep n i v h
theorem zx_en_in {ad : Nat → Nat} : ∀ (As : List zV) (n k i : Nat) (v : zV), zx_lk (zx_en As n) i = some v → (k + i, zc_v ad v) ∈ lv_args k (As.map (zc_v ad)) ∧ v ∈ As
  | [], n, k, i, v, h => (zx_lk_rep n i v h).elim
  | .inl x :: As, n, k, 0, v, h => by
    simp only [zx_en, zx_lk, Option.some.injEq] at h
    subst h
    exact ⟨List.mem_cons_self, List.mem_cons_self⟩
  | .inl x :: As, n, k, i + 1, v, h => by
    have := zx_en_in (ad := ad) As (n - 1) (k + 1) i v h
    rw [show k + (i + 1) = k + 1 + i by omega]
    exact ⟨List.mem_cons_of_mem _ this.1, List.mem_cons_of_mem _ this.2⟩
  | .inr (.inl x) :: As, n, k, 0, v, h => by
    simp only [zx_en, zx_lk, Option.some.injEq] at h
    subst h
    exact ⟨List.mem_cons_self, List.mem_cons_self⟩
  | .inr (.inl x) :: As, n, k, 1, v, h => by simp [zx_en, zx_lk] at h
  | .inr (.inl x) :: As, n, k, i + 2, v, h => by
    have := zx_en_in (ad := ad) As (n - 2) (k + 2) i v h
    rw [show k + (i + 2) = k + 2 + i by omega]
    exact ⟨List.mem_cons_of_mem _ this.1, List.mem_cons_of_mem _ this.2⟩
  | .inr (.inr x) :: As, n, k, 0, v, h => by
    simp only [zx_en, zx_lk, Option.some.injEq] at h
    subst h
    exact ⟨List.mem_cons_self, List.mem_cons_self⟩
  | .inr (.inr x) :: As, n, k, i + 1, v, h => by
    have := zx_en_in (ad := ad) As (n - 1) (k + 1) i v h
    rw [show k + (i + 1) = k + 1 + i by omega]
    exact ⟨List.mem_cons_of_mem _ this.1, List.mem_cons_of_mem _ this.2⟩
theorem zx_sz_sl (ad : Nat → Nat) : ∀ As : List zV, (lg_sl (As.map (zc_v ad))).length = zx_sz As
  | [] => rfl
  | .inl x :: As => by
    have := zx_sz_sl ad As
    simp only [lg_sl, List.map_cons, List.flatMap_cons, List.length_append] at this ⊢
    rw [this]
    simp [zc_v, Value.category, zx_sz]
    omega
  | .inr (.inl x) :: As => by
    have := zx_sz_sl ad As
    simp only [lg_sl, List.map_cons, List.flatMap_cons, List.length_append] at this ⊢
    rw [this]
    simp [zc_v, Value.category, zx_sz]
    omega
  | .inr (.inr x) :: As => by
    have := zx_sz_sl ad As
    simp only [lg_sl, List.map_cons, List.flatMap_cons, List.length_append] at this ⊢
    rw [this]
    simp [zc_v, Value.category, zx_sz]
    omega
section ZY
variable {j : Nat} {p : Program} {l : Launch} {e : Env} {s : State} {m : MethodId} {args : Array Value} {below : List Frame} {meth : Method} {c : Code} {D : va_G} {ad adV : Nat → Nat} {cA : Nat → ClassId} {A : Nat → Prop} {Q : zQ} {X : Nat → Bool} {P : Nat → zL → List zV → zM → Prop}
theorem zc_vc (C : zc_C j p s m args meth c D ad adV cA A) (hj : zk_meth j = true) (hP : ∀ i L S h, P i L S h → zc_W j p l e s m args below meth c D ad adV cA A (MQ below (zc_Qc Q D ad cA A) args s 0 0 A) i L S h) : ∀ (n i : Nat) (L : zL) (S : List zV) (h : zM), zx_vc zR X P (zx_cd j) Q n i L S h → zc_W j p l e s m args below meth c D ad adV cA A (MQ below (zc_Qc Q D ad cA A) args s 0 0 A) i L S h
  | 0, i, L, S, h, hv => hP i L S h hv
  | n + 1, i, L, S, h, hv => by
    simp only [zx_vc] at hv
    split at hv
    · exact hP i L S h hv
    split at hv
    · exact hP i L S h hv
    · rename_i w hw
      simp only [zk_meth, Bool.and_eq_true] at hj
      have he := zk_rows_at (zx_cd j) 0 i hj.1.1 hw
      rw [Nat.zero_add] at he
      exact zc_step C he hv (fun i2 L2 S2 h2 hk => zc_vc C (by simp only [zk_meth, Bool.and_eq_true]; exact hj) hP n i2 L2 S2 h2 hk)
    · exact hv.elim
theorem zc_go (C : zc_C j p s m args meth c D ad adV cA A) (hj : zk_meth j = true) (hP : ∀ i L S h, P i L S h → zc_W j p l e s m args below meth c D ad adV cA A (MQ below (zc_Qc Q D ad cA A) args s 0 0 A) i L S h) {n i : Nat} {L : zL} {S : List zV} {h : zM} (hv : zx_go zR X P (zx_cd j) Q n i L S h) : zc_W j p l e s m args below meth c D ad adV cA A (MQ below (zc_Qc Q D ad cA A) args s 0 0 A) i L S h := by
  unfold zx_go at hv
  split at hv
  · rename_i fl w hw
    have hj2 := hj
    simp only [zk_meth, Bool.and_eq_true] at hj2
    have he := zk_rows_at (zx_cd j) 0 i hj2.1.1 hw
    rw [Nat.zero_add] at he
    exact zc_step C he hv (fun i2 L2 S2 h2 hk => zc_vc C hj hP n i2 L2 S2 h2 hk)
  · exact hv.elim
/-- loops: a measure that falls -/
theorem zc_loop (C : zc_C j p s m args meth c D ad adV cA A) (hj : zk_meth j = true) (f : Nat) (I : Nat → Nat → zL → List zV → zM → Prop) (hs : ∀ n i L S h, zc_M h → I n i L S h → zx_go zR X (fun i2 L2 S2 h2 => ∃ n2, n2 < n ∧ I n2 i2 L2 S2 h2) (zx_cd j) Q f i L S h) : ∀ (n i : Nat) (L : zL) (S : List zV) (h : zM), I n i L S h → zc_W j p l e s m args below meth c D ad adV cA A (MQ below (zc_Qc Q D ad cA A) args s 0 0 A) i L S h := by
  intro n
  induction n using Nat.strongRecOn with
  | ind n ih =>
    intro i L S h hi H locs ls II
    exact zc_go C hj (fun i2 L2 S2 h2 hp => by obtain ⟨n2, h1, h2⟩ := hp; exact ih n2 h1 _ _ _ _ h2) (hs n i L S h II.2.2.2 hi) H locs ls II
end ZY
/-- A METHOD'S CONTRACT out of its walk: I is what holds at loops' heads, with a measure -/
theorem zx_met {j : Nat} {As : List zV} {h : zM} {Q : zQ} (hj : zk_meth j = true) (hrc : zc_rcv j As) (hsz : zx_sz As ≤ zx_ml j) (X : Nat → Bool) (f : Nat) (I : Nat → Nat → zL → List zV → zM → Prop)
    (h0 : zc_okS As → zc_M h → zx_go zR X (fun i L S h => ∃ n, I n i L S h) (zx_cd j) Q f 0 (zx_en As (zx_ml j)) [] h)
    (hs : zc_okS As → zc_M h → ∀ n i L S h2, zc_M h2 → I n i L S h2 → zx_go zR X (fun i2 L2 S2 h2 => ∃ n2, n2 < n ∧ I n2 i2 L2 S2 h2) (zx_cd j) Q f i L S h2) : zR j As h Q := by
  refine ⟨hrc, fun hok hM l D ad adV cA A => ?_⟩
  have hj2 := hj
  simp only [zk_meth, Bool.and_eq_true, decide_eq_true_eq] at hj2
  refine Met.ofW (cc := zx_by j) (maxL := zx_ml j) (ret := zx_rt j) hj2.2 rfl ?_
  intro p e s m args below meth c s₁ B hml hv
  obtain ⟨rfl, hP, hK, hD, hX, hA⟩ := hv
  have hts := atoms_spec (ws := zc_wsj j) B.pre
  have hown : s.vm.findClass (zc_own j) = some m.cls := findClass_of_methodNamed B.named
  have C : zc_C j p s m (As.map (zc_v ad)).toArray meth c D ad adV cA A := ⟨B.exec, B.bytes, B.returns, hml, hown, fun w hw => hts w (List.mem_cons_of_mem _ hw), B.notSynchronized, hK, hX, hA⟩
  have hl := lv_entry (As.map (zc_v ad)) (n := zx_ml j) (by rw [zx_sz_sl]; exact hsz)
  rw [lg_entry_eq]
  have W0 := zc_go (l := l) (e := e) (below := below) C hj (fun i L S h hp => by obtain ⟨n, hp⟩ := hp; exact zc_loop C hj f I (hs hok hM) n i L S h hp) (h0 hok hM) s.heap [] _ ⟨⟨hP, hD, va_S.rf⟩, ⟨⟨_, hl, fun i v hv => by have := (zx_en_in (ad := ad) As (zx_ml j) 0 i v hv).1; rwa [Nat.zero_add] at this⟩, fun i v hv => hok v (zx_en_in (ad := ad) As (zx_ml j) 0 i v hv).2⟩, ⟨(fun v hv => by cases hv), hM⟩⟩
  rw [hj2.1.2] at W0
  exact W0
/-- no loop in it -/
theorem zx_met0 {j : Nat} {As : List zV} {h : zM} {Q : zQ} (hj : zk_meth j = true) (hrc : zc_rcv j As) (hsz : zx_sz As ≤ zx_ml j) (f : Nat)
    (h0 : zc_okS As → zc_M h → zx_go zR (fun _ => false) (fun _ _ _ _ => False) (zx_cd j) Q f 0 (zx_en As (zx_ml j)) [] h) : zR j As h Q := by
  refine zx_met hj hrc hsz (fun _ => false) f (fun _ _ _ _ _ => False) (fun a b => ?_) (fun _ _ n i L S h _ hf => hf.elim)
  have e : (fun (i : Nat) (L : zL) (S : List zV) (h : zM) => ∃ n : Nat, False) = fun _ _ _ _ => False := by
    funext i L S h
    exact propext ⟨fun ⟨_, z⟩ => z, fun z => z.elim⟩
  rw [e]
  exact h0 a b
end
section
/-! the rows of code, checked by the kernel -/
theorem zk_0 : zk_meth 0 = true := by decide +kernel
theorem zk_1 : zk_meth 1 = true := by decide +kernel
theorem zk_2 : zk_meth 2 = true := by decide +kernel
theorem zk_3 : zk_meth 3 = true := by decide +kernel
theorem zk_4 : zk_meth 4 = true := by decide +kernel
theorem zk_5 : zk_meth 5 = true := by decide +kernel
theorem zk_6 : zk_meth 6 = true := by decide +kernel
theorem zk_7 : zk_meth 7 = true := by decide +kernel
theorem zk_8 : zk_meth 8 = true := by decide +kernel
theorem zk_9 : zk_meth 9 = true := by decide +kernel
theorem zk_10 : zk_meth 10 = true := by decide +kernel
theorem zk_11 : zk_meth 11 = true := by decide +kernel
theorem zk_12 : zk_meth 12 = true := by decide +kernel
theorem zk_13 : zk_meth 13 = true := by decide +kernel
theorem zk_14 : zk_meth 14 = true := by decide +kernel
theorem zk_15 : zk_meth 15 = true := by decide +kernel
theorem zk_16 : zk_meth 16 = true := by decide +kernel
theorem zk_17 : zk_meth 17 = true := by decide +kernel
theorem zk_18 : zk_meth 18 = true := by decide +kernel
theorem zk_19 : zk_meth 19 = true := by decide +kernel
theorem zk_20 : zk_meth 20 = true := by decide +kernel
theorem zk_21 : zk_meth 21 = true := by decide +kernel
theorem zk_22 : zk_meth 22 = true := by decide +kernel
theorem zk_23 : zk_meth 23 = true := by decide +kernel
theorem zk_24 : zk_meth 24 = true := by decide +kernel
theorem zk_25 : zk_meth 25 = true := by decide +kernel
theorem zk_26 : zk_meth 26 = true := by decide +kernel
theorem zk_27 : zk_meth 27 = true := by decide +kernel
theorem zk_28 : zk_meth 28 = true := by decide +kernel
theorem zk_29 : zk_meth 29 = true := by decide +kernel
theorem zk_30 : zk_meth 30 = true := by decide +kernel
theorem zk_31 : zk_meth 31 = true := by decide +kernel
theorem zk_32 : zk_meth 32 = true := by decide +kernel
theorem zk_33 : zk_meth 33 = true := by decide +kernel
theorem zk_34 : zk_meth 34 = true := by decide +kernel
theorem zk_35 : zk_meth 35 = true := by decide +kernel
theorem zk_36 : zk_meth 36 = true := by decide +kernel
theorem zk_37 : zk_meth 37 = true := by decide +kernel
theorem zk_38 : zk_meth 38 = true := by decide +kernel
theorem zk_39 : zk_meth 39 = true := by decide +kernel
theorem zk_40 : zk_meth 40 = true := by decide +kernel
theorem zk_41 : zk_meth 41 = true := by decide +kernel
theorem zk_42 : zk_meth 42 = true := by decide +kernel
theorem zk_43 : zk_meth 43 = true := by decide +kernel
theorem zk_44 : zk_meth 44 = true := by decide +kernel
theorem zk_45 : zk_meth 45 = true := by decide +kernel
theorem zk_46 : zk_meth 46 = true := by decide +kernel
theorem zk_47 : zk_meth 47 = true := by decide +kernel
theorem zk_48 : zk_meth 48 = true := by decide +kernel
theorem zk_49 : zk_meth 49 = true := by decide +kernel
theorem zk_50 : zk_meth 50 = true := by decide +kernel
theorem zk_51 : zk_meth 51 = true := by decide +kernel
theorem zk_52 : zk_meth 52 = true := by decide +kernel
theorem zk_53 : zk_meth 53 = true := by decide +kernel
theorem zk_54 : zk_meth 54 = true := by decide +kernel
theorem zk_55 : zk_meth 55 = true := by decide +kernel
end
section
/-! the rows of code, checked by the kernel -/
theorem zk_56 : zk_meth 56 = true := by decide +kernel
theorem zk_57 : zk_meth 57 = true := by decide +kernel
theorem zk_58 : zk_meth 58 = true := by decide +kernel
theorem zk_59 : zk_meth 59 = true := by decide +kernel
theorem zk_60 : zk_meth 60 = true := by decide +kernel
theorem zk_61 : zk_meth 61 = true := by decide +kernel
theorem zk_62 : zk_meth 62 = true := by decide +kernel
theorem zk_63 : zk_meth 63 = true := by decide +kernel
theorem zk_64 : zk_meth 64 = true := by decide +kernel
theorem zk_65 : zk_meth 65 = true := by decide +kernel
theorem zk_66 : zk_meth 66 = true := by decide +kernel
theorem zk_67 : zk_meth 67 = true := by decide +kernel
theorem zk_68 : zk_meth 68 = true := by decide +kernel
theorem zk_69 : zk_meth 69 = true := by decide +kernel
theorem zk_70 : zk_meth 70 = true := by decide +kernel
theorem zk_71 : zk_meth 71 = true := by decide +kernel
theorem zk_72 : zk_meth 72 = true := by decide +kernel
theorem zk_73 : zk_meth 73 = true := by decide +kernel
theorem zk_74 : zk_meth 74 = true := by decide +kernel
theorem zk_75 : zk_meth 75 = true := by decide +kernel
theorem zk_76 : zk_meth 76 = true := by decide +kernel
theorem zk_77 : zk_meth 77 = true := by decide +kernel
theorem zk_78 : zk_meth 78 = true := by decide +kernel
theorem zk_79 : zk_meth 79 = true := by decide +kernel
theorem zk_80 : zk_meth 80 = true := by decide +kernel
theorem zk_81 : zk_meth 81 = true := by decide +kernel
end
section
/-! the rows of code, checked by the kernel -/
theorem zk_82 : zk_meth 82 = true := by decide +kernel
theorem zk_83 : zk_meth 83 = true := by decide +kernel
theorem zk_84 : zk_meth 84 = true := by decide +kernel
theorem zk_85 : zk_meth 85 = true := by decide +kernel
theorem zk_86 : zk_meth 86 = true := by decide +kernel
theorem zk_87 : zk_meth 87 = true := by decide +kernel
theorem zk_88 : zk_meth 88 = true := by decide +kernel
theorem zk_89 : zk_meth 89 = true := by decide +kernel
theorem zk_90 : zk_meth 90 = true := by decide +kernel
theorem zk_91 : zk_meth 91 = true := by decide +kernel
theorem zk_92 : zk_meth 92 = true := by decide +kernel
theorem zk_93 : zk_meth 93 = true := by decide +kernel
theorem zk_94 : zk_meth 94 = true := by decide +kernel
theorem zk_95 : zk_meth 95 = true := by decide +kernel
theorem zk_96 : zk_meth 96 = true := by decide +kernel
theorem zk_97 : zk_meth 97 = true := by decide +kernel
theorem zk_98 : zk_meth 98 = true := by decide +kernel
theorem zk_99 : zk_meth 99 = true := by decide +kernel
theorem zk_100 : zk_meth 100 = true := by decide +kernel
theorem zk_101 : zk_meth 101 = true := by decide +kernel
theorem zk_102 : zk_meth 102 = true := by decide +kernel
theorem zk_103 : zk_meth 103 = true := by decide +kernel
theorem zk_104 : zk_meth 104 = true := by decide +kernel
theorem zk_105 : zk_meth 105 = true := by decide +kernel
theorem zk_106 : zk_meth 106 = true := by decide +kernel
theorem zk_107 : zk_meth 107 = true := by decide +kernel
theorem zk_108 : zk_meth 108 = true := by decide +kernel
theorem zk_109 : zk_meth 109 = true := by decide +kernel
theorem zk_110 : zk_meth 110 = true := by decide +kernel
theorem zk_111 : zk_meth 111 = true := by decide +kernel
theorem zk_112 : zk_meth 112 = true := by decide +kernel
theorem zk_113 : zk_meth 113 = true := by decide +kernel
theorem zk_114 : zk_meth 114 = true := by decide +kernel
theorem zk_115 : zk_meth 115 = true := by decide +kernel
theorem zk_116 : zk_meth 116 = true := by decide +kernel
theorem zk_117 : zk_meth 117 = true := by decide +kernel
theorem zk_118 : zk_meth 118 = true := by decide +kernel
theorem zk_119 : zk_meth 119 = true := by decide +kernel
end
section
/-! the rows of code, checked by the kernel -/
theorem zk_120 : zk_meth 120 = true := by decide +kernel
theorem zk_121 : zk_meth 121 = true := by decide +kernel
theorem zk_122 : zk_meth 122 = true := by decide +kernel
theorem zk_123 : zk_meth 123 = true := by decide +kernel
theorem zk_124 : zk_meth 124 = true := by decide +kernel
theorem zk_125 : zk_meth 125 = true := by decide +kernel
theorem zk_126 : zk_meth 126 = true := by decide +kernel
theorem zk_127 : zk_meth 127 = true := by decide +kernel
theorem zk_128 : zk_meth 128 = true := by decide +kernel
theorem zk_129 : zk_meth 129 = true := by decide +kernel
theorem zk_130 : zk_meth 130 = true := by decide +kernel
theorem zk_131 : zk_meth 131 = true := by decide +kernel
theorem zk_132 : zk_meth 132 = true := by decide +kernel
theorem zk_133 : zk_meth 133 = true := by decide +kernel
theorem zk_134 : zk_meth 134 = true := by decide +kernel
theorem zk_135 : zk_meth 135 = true := by decide +kernel
theorem zk_136 : zk_meth 136 = true := by decide +kernel
theorem zk_137 : zk_meth 137 = true := by decide +kernel
theorem zk_138 : zk_meth 138 = true := by decide +kernel
theorem zk_139 : zk_meth 139 = true := by decide +kernel
theorem zk_140 : zk_meth 140 = true := by decide +kernel
theorem zk_141 : zk_meth 141 = true := by decide +kernel
theorem zk_142 : zk_meth 142 = true := by decide +kernel
theorem zk_143 : zk_meth 143 = true := by decide +kernel
theorem zk_144 : zk_meth 144 = true := by decide +kernel
theorem zk_145 : zk_meth 145 = true := by decide +kernel
theorem zk_146 : zk_meth 146 = true := by decide +kernel
theorem zk_147 : zk_meth 147 = true := by decide +kernel
theorem zk_148 : zk_meth 148 = true := by decide +kernel
theorem zk_149 : zk_meth 149 = true := by decide +kernel
theorem zk_150 : zk_meth 150 = true := by decide +kernel
theorem zk_151 : zk_meth 151 = true := by decide +kernel
theorem zk_152 : zk_meth 152 = true := by decide +kernel
theorem zk_153 : zk_meth 153 = true := by decide +kernel
theorem zk_154 : zk_meth 154 = true := by decide +kernel
theorem zk_155 : zk_meth 155 = true := by decide +kernel
theorem zk_156 : zk_meth 156 = true := by decide +kernel
theorem zk_157 : zk_meth 157 = true := by decide +kernel
theorem zk_158 : zk_meth 158 = true := by decide +kernel
end
section
/-! the rows of code, checked by the kernel -/
theorem zk_159 : zk_meth 159 = true := by decide +kernel
theorem zk_160 : zk_meth 160 = true := by decide +kernel
theorem zk_161 : zk_meth 161 = true := by decide +kernel
theorem zk_162 : zk_meth 162 = true := by decide +kernel
theorem zk_163 : zk_meth 163 = true := by decide +kernel
theorem zk_164 : zk_meth 164 = true := by decide +kernel
theorem zk_165 : zk_meth 165 = true := by decide +kernel
theorem zk_166 : zk_meth 166 = true := by decide +kernel
theorem zk_167 : zk_meth 167 = true := by decide +kernel
theorem zk_168 : zk_meth 168 = true := by decide +kernel
theorem zk_169 : zk_meth 169 = true := by decide +kernel
theorem zk_170 : zk_meth 170 = true := by decide +kernel
theorem zk_171 : zk_meth 171 = true := by decide +kernel
theorem zk_172 : zk_meth 172 = true := by decide +kernel
theorem zk_173 : zk_meth 173 = true := by decide +kernel
theorem zk_174 : zk_meth 174 = true := by decide +kernel
theorem zk_175 : zk_meth 175 = true := by decide +kernel
theorem zk_176 : zk_meth 176 = true := by decide +kernel
theorem zk_177 : zk_meth 177 = true := by decide +kernel
theorem zk_178 : zk_meth 178 = true := by decide +kernel
theorem zk_179 : zk_meth 179 = true := by decide +kernel
theorem zk_180 : zk_meth 180 = true := by decide +kernel
theorem zk_181 : zk_meth 181 = true := by decide +kernel
theorem zk_182 : zk_meth 182 = true := by decide +kernel
theorem zk_183 : zk_meth 183 = true := by decide +kernel
theorem zk_184 : zk_meth 184 = true := by decide +kernel
theorem zk_185 : zk_meth 185 = true := by decide +kernel
theorem zk_186 : zk_meth 186 = true := by decide +kernel
theorem zk_187 : zk_meth 187 = true := by decide +kernel
theorem zk_188 : zk_meth 188 = true := by decide +kernel
theorem zk_189 : zk_meth 189 = true := by decide +kernel
theorem zk_190 : zk_meth 190 = true := by decide +kernel
theorem zk_191 : zk_meth 191 = true := by decide +kernel
theorem zk_192 : zk_meth 192 = true := by decide +kernel
theorem zk_193 : zk_meth 193 = true := by decide +kernel
theorem zk_194 : zk_meth 194 = true := by decide +kernel
theorem zk_195 : zk_meth 195 = true := by decide +kernel
theorem zk_196 : zk_meth 196 = true := by decide +kernel
theorem zk_197 : zk_meth 197 = true := by decide +kernel
theorem zk_198 : zk_meth 198 = true := by decide +kernel
theorem zk_199 : zk_meth 199 = true := by decide +kernel
theorem zk_200 : zk_meth 200 = true := by decide +kernel
theorem zk_201 : zk_meth 201 = true := by decide +kernel
end
section
/-! THE CLAIM OUT OF ONE WALK OF THE LAW'S BODY. Your part is whole_start (and what it stands on); all else here is the same for every law, but numbers. -/
def R_law : String := "PointMakerLaw"
def lw_P (b : Addr) (xs : List Int32) (args : Array Value) (s : State) : Prop := args = #[.ref b] ∧ s.IntsAt b xs ∧ xs.length ≤ 2560 ∧ (Jvm.Cond.and given_1 narrow_1).before args s = true
def lw_Q (_ : Array Value) (s : State) (o : Outcome) (t : State) : Prop := o = .returned (some (.int 1)) ∧ Framed s o t [] 600000 7302250
def lw_Z (below : List Frame) (a : Array Value) (s : State) : State → Prop := fun t => ∃ o, t.status = .running ∧ Ended t below o ∧ lw_Q a s o t
/-- the law's own end, with 1 on the stack, nothing written that was there before, its room as the claim has it -/
theorem lw_ret {p : Program} {l : Launch} {e : Env} {s : State} {m : MethodId} {below : List Frame} {meth : Method} {c : Code} {b : Nat} (hx : p.tables.exec = Jvm.exec) (hb : c.code = code) (hr : meth.sig.returnType = ret) (hlocks : meth.locks = false) {pc : Nat} {H : Heap} {ls : Array Slot} (hdg : decode code pc = .ok (.ireturn, 1)) : W p l e room_1 s m #[Value.ref b] below meth c H [] 600000 7302250 (lw_Z below #[Value.ref b] s) (F0 m pc ls [.int 1]) := by
  intro T hT X
  obtain ⟨fs, hret, hrun, hended, hW, hframe⟩ := X.leave (v := some (.int 1)) (hlocks := hlocks) (fun h => by rw [hr] at h; cases h)
  have hmeth' : T.vm.method? m = some meth := X.method'
  refine ⟨T.setFrames fs, ?_, .returned (some (.int 1)), hrun, hended, rfl, ⟨_, rfl⟩, hW, hframe⟩
  jvm_step X.here [X.here.top, hx, hb, hdg, hmeth', hr, ret, narrow_b1]
  (try refine ⟨rfl, ?_⟩); (try refine ⟨rfl, ?_⟩)
  first | (intro acts; rw [hret _ acts rfl rfl rfl]) | rw [hret _ _ rfl rfl rfl]
  exact Steps.refl _
/-- what holds at the law's entry: the machine, the code, the tables' words (any of lw_tbl by 'hts w (by decide +kernel)'), the script of L ints xs at the cell b, what the Statement gives of the start (any of its parts by flat_of_before) -/
def lw_At (p : Program) (s : State) (m : MethodId) (meth : Method) (c : Code) (b L : Nat) (xs : Nat → Int32) : Prop :=
  p.tables.exec = Jvm.exec ∧ c.code = code ∧ meth.sig.returnType = ret ∧ c.maxLocals = 4 ∧ s.vm.findClass R_law = some m.cls ∧ (∀ w ∈ lw_tbl, w.before #[Value.ref b] s = true) ∧ va_X b L xs s s.heap ∧ b < s.heap.size ∧ meth.locks = false ∧ (Jvm.Cond.and given_1 narrow_1).before #[Value.ref b] s = true
/-! THE LAW'S WALK, over any invariant -/
/-- a call of the class, then the same of the reference: the same answer, and the invariant again -/
def zPair (Inv : zM → Prop) (jC jM n : Nat) : Prop := ∀ as : List Int, as.length = n → ∀ h, Inv h → zR jC (.inr (.inr 0) :: as.map Sum.inl) h (fun rv h1 => zR jM (.inr (.inr 81) :: as.map Sum.inl) h1 (fun rv2 h2 => (∃ x, rv = some (.inl x) ∧ rv2 = some (.inl x)) ∧ Inv h2))
theorem zl_sub5 {L : Nat} (h : L ≤ 2560) : (Int32.ofNat L - 5).toInt = (L : Int) - 5 := by
  have e : (Int32.ofNat L).toInt = (L : Int) := nI_toInt (by omega)
  rw [Int32.toInt_sub, e]
  have e2 : (5 : Int32).toInt = 5 := by decide
  rw [e2, Int.bmod_eq_of_le (by omega) (by omega)]
def zl_d (pc : Nat) (ins : Instr) (len : Nat) : Bool := decide (decode code pc = .ok (ins, len))
/-- the pushes of n arguments -/
def zl_pk (pc : Nat) : Nat → Bool
  | 0 => true
  | k + 1 => zl_pk pc k && zl_d (pc + 5 * k) (.aload_n 0) 1 && zl_d (pc + 5 * k + 1) (.iload_n 3) 1 && zl_d (pc + 5 * k + 2) (.iconst (k + 1)) 1 && zl_d (pc + 5 * k + 3) .iadd 1 && zl_d (pc + 5 * k + 4) .iaload 1
/-- a callee of the law -/
def zl_c (a n : Nat) : Bool :=
  decide (a < 204) && zk_w (zx_mt a).2.2.2.2.2.2.2.1 (.code (zx_y a) (zx_by a) (zx_ml a) (zx_rt a)) && zk_w (zx_mt a).2.2.2.2.2.2.2.2.1 (.instanceMethod (zx_y a)) && zk_w (zx_mt a).2.2.2.2.2.2.2.2.2.1 (.selects (zc_own a) (zx_y a) (zx_y a)) && zk_w (zx_mt a).2.2.2.2.2.2.2.2.2.2 (.initialized (zc_own a)) &&
  decide ((zx_rm a).frames + 1 ≤ room_1.frames) && decide (8 + (zx_ml a + 11) + (zx_rm a).locals ≤ room_1.locals) && decide ((parseMethodDescriptor (zx_y a).desc).map (fun d => d.parameters.length) = some n) && decide (zc_own a ≠ "java/lang/invoke/MethodHandle") && decide (zc_own a ≠ "java/lang/invoke/VarHandle")
/-- a case of the law: where it begins, how many arguments, the class's method (link, its word), the reference's -/
def zl_ck (pc n jC iC pC jM iM pM : Nat) : Bool :=
  zl_d pc (.aload_n 1) 1 && zl_pk (pc + 1) n && zl_d (pc + 1 + 5 * n) (.invokevirtual iC) 3 && zl_d (pc + 4 + 5 * n) (.aload_n 2) 1 && zl_pk (pc + 5 + 5 * n) n && zl_d (pc + 5 + 10 * n) (.invokevirtual iM) 3 && zl_d (pc + 8 + 10 * n) (.if_icmp .eq (1004 - ((pc : Int) + 8 + 10 * n))) 3 && zk_w pC (.methodLink R_law iC (zx_y jC)) && zk_w pM (.methodLink R_law iM (zx_y jM)) && zl_c jC n && zl_c jM n && decide (n ≤ 4) && zx_rcv jC 0 && zx_rcv jM 81 && !zx_sts.contains jC && !zx_sts.contains jM
theorem dl_18 : decode code 18 = .ok (.iload_n 3, 1) := by decide +kernel
theorem dl_19 : decode code 19 = .ok (.aload_n 0, 1) := by decide +kernel
theorem dl_20 : decode code 20 = .ok (.arraylength, 1) := by decide +kernel
theorem dl_21 : decode code 21 = .ok (.iconst 5, 1) := by decide +kernel
theorem dl_22 : decode code 22 = .ok (.isub, 1) := by decide +kernel
theorem dl_23 : decode code 23 = .ok (.if_icmp .gt 987, 3) := by decide +kernel
theorem dl_26 : decode code 26 = .ok (.aload_n 0, 1) := by decide +kernel
theorem dl_27 : decode code 27 = .ok (.iload_n 3, 1) := by decide +kernel
theorem dl_28 : decode code 28 = .ok (.iaload, 1) := by decide +kernel
theorem dl_29 : decode code 29 = .ok (.bipush 31, 2) := by decide +kernel
theorem dl_31 : decode code 31 = .ok (.iand, 1) := by decide +kernel
theorem dl_32 : decode code 32 = .ok (.tableswitch 972 0 27 #[128, 151, 174, 187, 200, 223, 256, 289, 322, 345, 378, 411, 454, 487, 540, 573, 586, 599, 622, 665, 708, 751, 774, 797, 840, 883, 936, 949], 128) := by decide +kernel
theorem dl_1004 : decode code 1004 = .ok (.iinc 3 5, 3) := by decide +kernel
theorem dl_1007 : decode code 1007 = .ok (.goto (-989), 3) := by decide +kernel
theorem dl_1010 : decode code 1010 = .ok (.iconst 1, 1) := by decide +kernel
theorem dl_1011 : decode code 1011 = .ok (.ireturn, 1) := by decide +kernel
section ZL
variable {p : Program} {l : Launch} {e : Env} {s : State} {m : MethodId} {below : List Frame} {meth : Method} {c : Code} {D : va_G} {ad adV : Nat → Nat} {cA : Nat → ClassId} {b Ln : Nat} {xs : Nat → Int32} {Q : State → Prop} {cells slots : Nat}
/-- what stands all through the law's loop -/
def zl_C (p : Program) (l : Launch) (s : State) (m : MethodId) (meth : Method) (c : Code) (D : va_G) (ad adV : Nat → Nat) (cA : Nat → ClassId) (b Ln : Nat) (xs : Nat → Int32) : Prop :=
  p.tables.exec = Jvm.exec ∧ c.code = code ∧ meth.sig.returnType = ret ∧ c.maxLocals = 4 ∧ s.vm.findClass R_law = some m.cls ∧ (∀ w ∈ lw_tbl, w.before #[Value.ref b] s = true) ∧ va_X b Ln xs s s.heap ∧ b < s.heap.size ∧ meth.locks = false ∧ va_K D vwCl (zc_tys cA) s ∧ Ln ≤ 2560 ∧ zc_X ad adV (fun q => s.heap.size ≤ q) s s.heap
def zl_I (s : State) (D : va_G) (ad : Nat → Nat) (cA : Nat → ClassId) (h : zM) (H : Heap) (locs : List Loc) : Prop :=
  (va_P D vwCl (zc_ws ad cA h) H ∧ va_D (fun q => s.heap.size ≤ q) (zc_ws ad cA h) ∧ va_S (fun q => s.heap.size ≤ q) s.heap H locs) ∧ zc_M h
def zl_vals (xs : Nat → Int32) (i : Nat) : Nat → List Value
  | 0 => []
  | k + 1 => zl_vals xs i k ++ [.int (xs (i + (k + 1)))]
def zl_ints (xs : Nat → Int32) (i : Nat) : Nat → List Int
  | 0 => []
  | k + 1 => zl_ints xs i k ++ [(xs (i + (k + 1))).toInt]
theorem zl_ints_len (xs : Nat → Int32) (i : Nat) : ∀ n, (zl_ints xs i n).length = n
  | 0 => rfl
  | n + 1 => by simp [zl_ints, zl_ints_len xs i n]
theorem zl_ints_v (xs : Nat → Int32) (i : Nat) : ∀ n, ((zl_ints xs i n).map Sum.inl).map (zc_v ad) = zl_vals xs i n
  | 0 => rfl
  | n + 1 => by
    simp only [zl_ints, zl_vals, List.map_append, zl_ints_v xs i n]
    simp [zc_v]
theorem zl_ints_ok (xs : Nat → Int32) (i : Nat) : ∀ n, zc_okS ((zl_ints xs i n).map Sum.inl)
  | 0 => fun v hv => by cases hv
  | n + 1 => by
    intro v hv
    simp only [zl_ints, List.map_append, List.mem_append] at hv
    rcases hv with hv | hv
    · exact zl_ints_ok xs i n v hv
    · simp at hv
      subst hv
      exact zc_ri _
theorem zl_args (C : zl_C p l s m meth c D ad adV cA b Ln xs) {h : zM} {H : Heap} {locs : List Loc} {ls : Array Slot} (I : zl_I s D ad cA h H locs) {i : Nat} (hi : i + 5 ≤ Ln) (hl : lv_has ls 4 [(0, .ref b), (1, .ref (ad 0)), (2, .ref (ad 81)), (3, .int (nI i))]) {pc : Nat} {rest : List Value} : ∀ (n : Nat), n ≤ 4 → zl_pk pc n = true → W p l e room_1 s m #[Value.ref b] below meth c H locs cells slots Q (F0 m (pc + 5 * n) ls ((zl_vals xs i n).reverse ++ rest)) → W p l e room_1 s m #[Value.ref b] below meth c H locs cells slots Q (F0 m pc ls rest)
  | 0, _, _, k => k
  | n + 1, hn, hp, k => by
    simp only [zl_pk, zl_d, Bool.and_eq_true, decide_eq_true_eq] at hp
    obtain ⟨⟨⟨⟨⟨h0, h1⟩, h2⟩, h3⟩, h4⟩, h5⟩ := hp
    have hLn := C.2.2.2.2.2.2.2.2.2.2.1
    refine zl_args C I hi hl n (by omega) h0 ?_
    refine lv_aload_n C.1 C.2.1 h1 rfl (lv_at hl 0 rfl) ?_
    refine lv_iload_n C.1 C.2.1 h2 rfl (lv_at hl 3 rfl) ?_
    refine lv_iconst (v := nI (n + 1)) C.1 C.2.1 h3 (zc_ofN (n + 1)) ?_
    refine lv_iadd C.1 C.2.1 h4 ?_
    rw [nI_add]
    refine va_sld C.1 C.2.1 C.2.2.2.2.2.2.1 C.2.2.2.2.2.2.2.1 (Nat.not_le.mpr C.2.2.2.2.2.2.2.1) I.1.2.2 (vp_in_nI (by omega) (by omega)) h5 ?_
    rw [nI_clamp (by omega)]
    rw [show pc + 5 * (n + 1) = pc + 5 * n + 4 + 1 by omega] at k
    simpa [zl_vals] using k
theorem zl_call {a r idx n pc kw : Nat} {as : List Int} {h : zM} {H : Heap} {locs : List Loc} {ls : Array Slot} {Qz : zQ} {rest : List Value} (C : zl_C p l s m meth c D ad adV cA b Ln xs) (I : zl_I s D ad cA h H locs) (hls : ls.size = 4) (hok : zc_okS (as.map Sum.inl)) (hlen : as.length = n) (hR : zR a (.inr (.inr r) :: as.map Sum.inl) h Qz) (hst : zx_sts.contains a = false) (hc : zl_c a n = true) (hw : zk_w kw (.methodLink R_law idx (zx_y a)) = true) (hrest : (rest.map fun v => v.category).sum ≤ 8) (hcl : cells ≤ room_1.cells) (hsl : slots ≤ room_1.slots) (hd : decode code pc = .ok (.invokevirtual idx, 3))
    (kk : ∀ (rv : Option zV) (h2 : zM) (H1 : Heap) (locs1 : List Loc), Qz rv h2 → zc_okO rv → zl_I s D ad cA h2 H1 locs1 → W p l e room_1 s m #[Value.ref b] below meth c H1 locs1 cells slots Q (F0 m (pc + 3) ls ((rv.map (zc_v ad)).toList ++ rest))) : W p l e room_1 s m #[Value.ref b] below meth c H locs cells slots Q (F0 m pc ls (((as.map Sum.inl).map (zc_v ad)).reverse ++ Value.ref (ad r) :: rest)) := by
  obtain ⟨hrc, hM⟩ := hR
  have hM := hM (List.forall_mem_cons.mpr ⟨trivial, hok⟩) I.2 l D ad adV cA (fun q => s.heap.size ≤ q)
  have htb : ∀ w ∈ zc_tb, w.before #[Value.ref b] s = true := fun w hw => C.2.2.2.2.2.1 w (List.mem_filter.mp hw).1
  simp only [zl_c, Bool.and_eq_true, decide_eq_true_eq] at hc
  obtain ⟨⟨⟨⟨⟨⟨⟨⟨⟨k0, k1⟩, k2⟩, k3⟩, k4⟩, k5⟩, k6⟩, k7⟩, k8⟩, k9⟩ := hc
  have hws : ∀ w ∈ zc_wsj a, w ∈ zc_tb := by
    intro w hw
    rcases List.mem_cons.mp hw with rfl | hw
    · exact zk_w_in k1
    · exact hw
  rcases hrc with hrc | ⟨r2, As2, er, hrc⟩
  · rw [hst] at hrc; cases hrc
  have er1 : r = r2 := by simpa using (List.cons.inj er).1
  subst er1
  have hre : ∃ cellB : Cell, H[ad r]? = some cellB ∧ cellB.vm.isStatics = false ∧ s.vm.findClass (zc_own a) = some cellB.cls := by
    simp only [zx_rcv, Bool.or_eq_true, Bool.and_eq_true, beq_iff_eq, decide_eq_true_eq] at hrc
    rcases hrc with ⟨g1, g2⟩ | ⟨⟨g1, g2⟩, g3⟩
    · have hr : r < 108 := zc_r (by rw [g1]; decide)
      have hs := zc_shp r hr g1
      have hne : zx_cN a ≠ 99 := by
        intro z
        rw [g2, z] at hs
        exact absurd hs (by simp)
      have ho := zc_own_cN a k0 hne
      rw [← g2] at ho
      obtain ⟨q, hq⟩ : ∃ q, vwCl[zx_ci r]? = some q := by
        cases hv : vwCl[zx_ci r]? with
        | none => rw [hv] at ho; cases ho
        | some q => exact ⟨q, rfl⟩
      rw [hq] at ho
      have hcc : (zc_ws ad cA h)[r]? = some (ad r, .inr (zx_ci r, zc_fs ad h r)) := by rw [zc_at ad cA h hr, zc_el0 g1]
      have := va_recv C.2.2.2.2.2.2.2.2.2.1 I.1.1 hq hcc
      rw [← Option.some.inj ho]
      exact this
    · rw [zc_own_S a k0 g1]
      have := vk_recv (i := r - 1000) C.2.2.2.2.2.2.2.2.2.2.2.2.2.1 (by omega) I.1.2.2
      have er : 1000 + (r - 1000) = r := by omega
      simp only [er] at this
      exact this
  have hp : PreV s H (zc_own a) (ad r) (va_Pc ((Sum.inr (Sum.inr r) :: as.map Sum.inl).map (zc_v ad)) (zc_pre D ad adV cA (fun q => s.heap.size ≤ q) h)) ((as.map Sum.inl).map (zc_v ad)) := by
    refine ⟨zc_blind, hre, fun U hU hW => ⟨rfl, by rw [hU]; exact I.1.1, va_K.moved hW.alike C.2.2.2.2.2.2.2.2.2.1, I.1.2.1, ?_, fun q hq => ?_⟩⟩
    · rw [hU]
      exact (C.2.2.2.2.2.2.2.2.2.2.2.warm hW).kept I.1.2.2.2.1
    · rw [hU] at hq
      exact Nat.le_trans I.1.2.2.1 hq
  have hrun := va_runV (l := l) (e := e) (p := p) (R := room_1) (below := below) (meth := meth) (locs := locs) (cells := cells) (slots := slots) (g := F0 m pc ls (((as.map Sum.inl).map (zc_v ad)).reverse ++ Value.ref (ad r) :: rest)) (rest := rest) (y := zx_y a) (bytes := zx_by a) (maxL := zx_ml a) (ret := zx_rt a) (ws := zc_wsj a) (rm := zx_rm a) (Ts := zc_tb) (own := R_law) (C := zc_own a) (n := n) (nL := 4) ⟨C.1, C.2.1, C.2.2.2.1, C.2.2.2.2.1, htb⟩ hM
    ⟨callB_of n htb (zc_goodIn hws) rfl rfl rfl (htb _ (zk_w_in k4)) (htb _ (zk_w_in hw)) ⟨k8, k9, k7⟩ ⟨k5, k6⟩, htb _ (zk_w_in k2), htb _ (zk_w_in k3)⟩ hp rfl (by rw [List.length_map, List.length_map]; exact hlen) hls rfl (by show 2 * 0 + _ ≤ 8; omega) hd ⟨hcl, hsl⟩
  intro T hT X
  obtain ⟨v, st₀, t, T', L, h0, X', hL, e1, e2, ⟨⟨rv, h2, hv, ⟨hp1, hp2, hp3⟩, hb⟩, hz, hk⟩, st⟩ := hrun T hT X
  cases hv
  rw [h0] at hz hk
  have hS := I.1.2.2
  obtain ⟨t2, a1, b1⟩ := kk rv h2 T'.heap (locs ++ L) hp1 hp2 ⟨⟨by rw [e1]; exact hb.1, hb.2.2,
    ⟨Nat.le_trans hS.1 (by rw [e1]; exact hz), fun q h1 h2 => by rw [e1, hk q (Nat.lt_of_lt_of_le h1 hS.1) h2]; exact hS.2.1 q h1 h2, fun q hq => by
      rcases List.mem_append.mp hq with h | h
      · exact hS.2.2 q h
      · exact hL q h⟩⟩, hp3⟩ T' rfl X'
  exact ⟨t2, st t2 a1, b1⟩
theorem zl_case {Inv : zM → Prop} {pc n jC iC pC jM iM pM : Nat} (hck : zl_ck pc n jC iC pC jM iM pM = true) (hp : zPair Inv jC jM n) (C : zl_C p l s m meth c D ad adV cA b Ln xs) {i : Nat} (hi : i + 5 ≤ Ln) {h : zM} (hI : Inv h) {H : Heap} {locs : List Loc} {ls : Array Slot} (I : zl_I s D ad cA h H locs) (hl : lv_has ls 4 [(0, .ref b), (1, .ref (ad 0)), (2, .ref (ad 81)), (3, .int (nI i))])
    (again : ∀ (h2 : zM), Inv h2 → ∀ (H2 : Heap) (locs2 : List Loc), zl_I s D ad cA h2 H2 locs2 → W p l e room_1 s m #[Value.ref b] below meth c H2 locs2 600000 7302250 (lw_Z below #[Value.ref b] s) (F0 m 1004 ls [])) : W p l e room_1 s m #[Value.ref b] below meth c H locs 600000 7302250 (lw_Z below #[Value.ref b] s) (F0 m pc ls []) := by
  simp only [zl_ck, Bool.and_eq_true, decide_eq_true_eq, Bool.not_eq_true', zl_d] at hck
  obtain ⟨⟨⟨⟨⟨⟨⟨⟨⟨⟨⟨⟨⟨⟨⟨q1, q2⟩, q3⟩, q4⟩, q5⟩, q6⟩, q7⟩, q8⟩, q9⟩, q10⟩, q11⟩, q12⟩, q13⟩, q14⟩, q15⟩, q16⟩ := hck
  refine lv_aload_n C.1 C.2.1 q1 rfl (lv_at hl 1 rfl) ?_
  refine zl_args C I hi hl n q12 q2 ?_
  have ev := zl_ints_v (ad := ad) xs i n
  have hlen := zl_ints_len xs i n
  have hok := zl_ints_ok xs i n
  rw [← ev]
  refine zl_call (rest := []) C I hl.1 hok hlen (hp _ hlen h hI) q15 q10 q8 (by simp) (Nat.le_refl _) (Nat.le_refl _) q3 (fun rv h1 H1 locs1 hq hrv I1 => ?_)
  rw [show pc + 1 + 5 * n + 3 = pc + 4 + 5 * n by omega]
  refine lv_aload_n C.1 C.2.1 q4 rfl (lv_at hl 2 rfl) ?_
  rw [show pc + 4 + 5 * n + 1 = pc + 5 + 5 * n by omega]
  refine zl_args C I1 hi hl n q12 q5 ?_
  rw [← ev]
  rw [show pc + 5 + 5 * n + 5 * n = pc + 5 + 10 * n by omega]
  have hcat : (((rv.map (zc_v ad)).toList ++ []).map fun v : Value => v.category).sum ≤ 8 := by
    cases rv with
    | none => simp
    | some v => rcases v with v | (v | v) <;> simp [zc_v, Value.category]
  refine zl_call C I1 hl.1 hok hlen hq q16 q11 q9 hcat (Nat.le_refl _) (Nat.le_refl _) q6 (fun rv2 h2 H2 locs2 hq2 hrv2 I2 => ?_)
  obtain ⟨⟨x, rfl, rfl⟩, hI2⟩ := hq2
  rw [show pc + 5 + 10 * n + 3 = pc + 8 + 10 * n by omega]
  refine lv_icmp_eq (x := Int32.ofInt x) (y := Int32.ofInt x) (tgt := 1004) (rest := []) C.1 C.2.1 q7 (by omega) (fun _ => ?_) (fun z => absurd rfl z)
  exact again h2 hI2 H2 locs2 I2

/-- every call of the law: its case, where it stands, how many arguments, the class's method, the reference's -/
def zl_cases : List (Nat × Nat × Nat × Nat) := [(0, 1, 0, 51), (1, 1, 1, 52), (2, 0, 2, 65), (3, 0, 3, 66), (4, 1, 4, 88), (5, 2, 5, 89), (6, 2, 6, 90), (7, 2, 7, 91), (8, 1, 8, 92), (9, 2, 9, 94), (10, 2, 10, 95), (11, 3, 11, 96), (12, 2, 12, 104), (13, 4, 13, 105), (14, 2, 14, 107), (15, 0, 15, 115), (16, 0, 16, 116), (17, 1, 17, 117), (18, 3, 18, 119), (19, 3, 19, 122), (20, 3, 20, 123), (21, 1, 21, 124), (22, 1, 22, 125), (23, 3, 23, 126), (24, 3, 24, 127), (25, 4, 25, 129), (26, 0, 26, 130), (27, 1, 27, 132)]
theorem zl_k0 : zl_ck 160 1 0 13 430 51 17 1142 = true := by decide +kernel
theorem zl_k1 : zl_ck 183 1 1 18 438 52 21 1150 = true := by decide +kernel
theorem zl_k2 : zl_ck 206 0 2 22 442 65 26 1154 = true := by decide +kernel
theorem zl_k3 : zl_ck 219 0 3 27 627 66 30 1219 = true := by decide +kernel
theorem zl_k4 : zl_ck 232 1 4 31 631 88 34 1223 = true := by decide +kernel
theorem zl_k5 : zl_ck 255 2 5 35 783 89 39 1317 = true := by decide +kernel
theorem zl_k6 : zl_ck 288 2 6 40 793 90 43 1325 = true := by decide +kernel
theorem zl_k7 : zl_ck 321 2 7 44 798 91 47 1333 = true := by decide +kernel
theorem zl_k8 : zl_ck 354 1 8 48 803 92 51 1343 = true := by decide +kernel
theorem zl_k9 : zl_ck 377 2 9 52 807 94 55 1347 = true := by decide +kernel
theorem zl_k10 : zl_ck 410 2 10 56 819 95 59 1359 = true := by decide +kernel
theorem zl_k11 : zl_ck 443 3 11 60 824 96 64 1363 = true := by decide +kernel
theorem zl_k12 : zl_ck 486 2 12 65 832 104 68 1367 = true := by decide +kernel
theorem zl_k13 : zl_ck 519 4 13 69 840 105 73 1371 = true := by decide +kernel
theorem zl_k14 : zl_ck 572 2 14 74 857 107 77 1375 = true := by decide +kernel
theorem zl_k15 : zl_ck 605 0 15 78 864 115 81 1383 = true := by decide +kernel
theorem zl_k16 : zl_ck 618 0 16 82 891 116 85 1411 = true := by decide +kernel
theorem zl_k17 : zl_ck 631 1 17 86 895 117 89 1419 = true := by decide +kernel
theorem zl_k18 : zl_ck 654 3 18 90 899 119 93 1426 = true := by decide +kernel
theorem zl_k19 : zl_ck 697 3 19 94 908 122 97 1436 = true := by decide +kernel
theorem zl_k20 : zl_ck 740 3 20 98 916 123 101 1449 = true := by decide +kernel
theorem zl_k21 : zl_ck 783 1 21 102 924 124 105 1453 = true := by decide +kernel
theorem zl_k22 : zl_ck 806 1 22 106 933 125 109 1457 = true := by decide +kernel
theorem zl_k23 : zl_ck 829 3 23 110 937 126 113 1461 = true := by decide +kernel
theorem zl_k24 : zl_ck 872 3 24 114 953 127 117 1465 = true := by decide +kernel
theorem zl_k25 : zl_ck 915 4 25 118 966 129 121 1469 = true := by decide +kernel
theorem zl_k26 : zl_ck 968 0 26 122 978 130 125 1478 = true := by decide +kernel
theorem zl_k27 : zl_ck 981 1 27 126 982 132 129 1482 = true := by decide +kernel
set_option maxHeartbeats 4000000 in
set_option maxRecDepth 100000 in
/-- THE LAW'S LOOP -/
theorem zl_loop {Inv : zM → Prop} (hp : ∀ q ∈ zl_cases, zPair Inv q.2.2.1 q.2.2.2 q.2.1) (C : zl_C p l s m meth c D ad adV cA b Ln xs) :
    ∀ (n i : Nat), i ≤ Ln + 4 → Ln + 5 ≤ i + n → ∀ (h : zM), Inv h → ∀ (H : Heap) (locs : List Loc) (ls : Array Slot), zl_I s D ad cA h H locs → lv_has ls 4 [(0, .ref b), (1, .ref (ad 0)), (2, .ref (ad 81)), (3, .int (nI i))] → W p l e room_1 s m #[Value.ref b] below meth c H locs 600000 7302250 (lw_Z below #[Value.ref b] s) (F0 m 18 ls []) := by
  intro n
  induction n with
  | zero =>
    intro i h1 h2
    exact absurd h2 (by omega)
  | succ n ih =>
    intro i h1 h2 h hI H locs ls I hl
    have hLn := C.2.2.2.2.2.2.2.2.2.2.1
    refine lv_iload_n C.1 C.2.1 dl_18 rfl (lv_at hl 3 rfl) ?_
    refine lv_aload_n C.1 C.2.1 dl_19 rfl (lv_at hl 0 rfl) ?_
    refine va_slen C.1 C.2.1 C.2.2.2.2.2.2.1 C.2.2.2.2.2.2.2.1 (Nat.not_le.mpr C.2.2.2.2.2.2.2.1) I.1.2.2 dl_20 ?_
    refine lv_iconst (v := 5) C.1 C.2.1 dl_21 (by decide) ?_
    refine lv_isub C.1 C.2.1 dl_22 ?_
    have e5 : (Int32.ofNat Ln - 5).toInt = (Ln : Int) - 5 := zl_sub5 (by omega)
    have ei : (nI i).toInt = (i : Int) := nI_toInt (by omega)
    refine lv_icmp_gt (tgt := 1010) C.1 C.2.1 dl_23 (by decide) (fun z => ?_) (fun z => ?_)
    · refine lv_iconst (v := 1) C.1 C.2.1 dl_1010 (by decide) ?_
      refine va_forget (fun q hq => I.1.2.2.2.2 q hq) ?_
      exact lw_ret C.1 C.2.1 C.2.2.1 C.2.2.2.2.2.2.2.2.1 dl_1011
    · have hi5 : i + 5 ≤ Ln := by
        rw [Int32.lt_iff_toInt_lt, e5, ei] at z
        omega
      refine lv_aload_n C.1 C.2.1 dl_26 rfl (lv_at hl 0 rfl) ?_
      refine lv_iload_n C.1 C.2.1 dl_27 rfl (lv_at hl 3 rfl) ?_
      refine va_sld C.1 C.2.1 C.2.2.2.2.2.2.1 C.2.2.2.2.2.2.2.1 (Nat.not_le.mpr C.2.2.2.2.2.2.2.1) I.1.2.2 (vp_in_nI (by omega) (by omega)) dl_28 ?_
      refine lv_bipush (v := 31) C.1 C.2.1 dl_29 (by decide) ?_
      refine lv_iand C.1 C.2.1 dl_31 ?_
      obtain ⟨k, hk, ek⟩ := pk_andE (xs (nI i).toNatClampNeg) (m := 31) 5 (by decide)
      rw [ek]
      have again : ∀ (h2 : zM), Inv h2 → ∀ (H2 : Heap) (locs2 : List Loc), zl_I s D ad cA h2 H2 locs2 → W p l e room_1 s m #[Value.ref b] below meth c H2 locs2 600000 7302250 (lw_Z below #[Value.ref b] s) (F0 m 1004 ls []) := by
        intro h2 hI2 H2 locs2 I2
        refine lv_iinc (v := nI (i + 5)) (lv' := [(3, .int (nI (i + 5))), (0, .ref b), (1, .ref (ad 0)), (2, .ref (ad 81))]) C.1 C.2.1 dl_1004 hl (k := 3) rfl (by rw [show Int32.ofInt 5 = nI 5 from rfl, nI_add]) (by decide) rfl (fun ls2 hl2 => ?_)
        refine lv_goto (tgt := 18) C.1 C.2.1 dl_1007 (by decide) ?_
        exact ih (i + 5) (by omega) (by omega) h2 hI2 H2 locs2 ls2 I2 (lv_sub hl2 [1, 2, 3, 0] rfl)
      have hk32 : k < 32 := hk
      have hcs : k = 0 ∨ k = 1 ∨ k = 2 ∨ k = 3 ∨ k = 4 ∨ k = 5 ∨ k = 6 ∨ k = 7 ∨ k = 8 ∨ k = 9 ∨ k = 10 ∨ k = 11 ∨ k = 12 ∨ k = 13 ∨ k = 14 ∨ k = 15 ∨ k = 16 ∨ k = 17 ∨ k = 18 ∨ k = 19 ∨ k = 20 ∨ k = 21 ∨ k = 22 ∨ k = 23 ∨ k = 24 ∨ k = 25 ∨ k = 26 ∨ k = 27 ∨ k = 28 ∨ k = 29 ∨ k = 30 ∨ k = 31 := by omega
      rcases hcs with rfl | rfl | rfl | rfl | rfl | rfl | rfl | rfl | rfl | rfl | rfl | rfl | rfl | rfl | rfl | rfl | rfl | rfl | rfl | rfl | rfl | rfl | rfl | rfl | rfl | rfl | rfl | rfl | rfl | rfl | rfl | rfl
      · refine lv_tableIn (off := 128) (tgt := 160) C.1 C.2.1 dl_32 (by decide) (by decide) rfl (by decide) ?_
        exact zl_case zl_k0 (hp (0, 1, 0, 51) (by decide)) C hi5 hI I hl again
      · refine lv_tableIn (off := 151) (tgt := 183) C.1 C.2.1 dl_32 (by decide) (by decide) rfl (by decide) ?_
        exact zl_case zl_k1 (hp (1, 1, 1, 52) (by decide)) C hi5 hI I hl again
      · refine lv_tableIn (off := 174) (tgt := 206) C.1 C.2.1 dl_32 (by decide) (by decide) rfl (by decide) ?_
        exact zl_case zl_k2 (hp (2, 0, 2, 65) (by decide)) C hi5 hI I hl again
      · refine lv_tableIn (off := 187) (tgt := 219) C.1 C.2.1 dl_32 (by decide) (by decide) rfl (by decide) ?_
        exact zl_case zl_k3 (hp (3, 0, 3, 66) (by decide)) C hi5 hI I hl again
      · refine lv_tableIn (off := 200) (tgt := 232) C.1 C.2.1 dl_32 (by decide) (by decide) rfl (by decide) ?_
        exact zl_case zl_k4 (hp (4, 1, 4, 88) (by decide)) C hi5 hI I hl again
      · refine lv_tableIn (off := 223) (tgt := 255) C.1 C.2.1 dl_32 (by decide) (by decide) rfl (by decide) ?_
        exact zl_case zl_k5 (hp (5, 2, 5, 89) (by decide)) C hi5 hI I hl again
      · refine lv_tableIn (off := 256) (tgt := 288) C.1 C.2.1 dl_32 (by decide) (by decide) rfl (by decide) ?_
        exact zl_case zl_k6 (hp (6, 2, 6, 90) (by decide)) C hi5 hI I hl again
      · refine lv_tableIn (off := 289) (tgt := 321) C.1 C.2.1 dl_32 (by decide) (by decide) rfl (by decide) ?_
        exact zl_case zl_k7 (hp (7, 2, 7, 91) (by decide)) C hi5 hI I hl again
      · refine lv_tableIn (off := 322) (tgt := 354) C.1 C.2.1 dl_32 (by decide) (by decide) rfl (by decide) ?_
        exact zl_case zl_k8 (hp (8, 1, 8, 92) (by decide)) C hi5 hI I hl again
      · refine lv_tableIn (off := 345) (tgt := 377) C.1 C.2.1 dl_32 (by decide) (by decide) rfl (by decide) ?_
        exact zl_case zl_k9 (hp (9, 2, 9, 94) (by decide)) C hi5 hI I hl again
      · refine lv_tableIn (off := 378) (tgt := 410) C.1 C.2.1 dl_32 (by decide) (by decide) rfl (by decide) ?_
        exact zl_case zl_k10 (hp (10, 2, 10, 95) (by decide)) C hi5 hI I hl again
      · refine lv_tableIn (off := 411) (tgt := 443) C.1 C.2.1 dl_32 (by decide) (by decide) rfl (by decide) ?_
        exact zl_case zl_k11 (hp (11, 3, 11, 96) (by decide)) C hi5 hI I hl again
      · refine lv_tableIn (off := 454) (tgt := 486) C.1 C.2.1 dl_32 (by decide) (by decide) rfl (by decide) ?_
        exact zl_case zl_k12 (hp (12, 2, 12, 104) (by decide)) C hi5 hI I hl again
      · refine lv_tableIn (off := 487) (tgt := 519) C.1 C.2.1 dl_32 (by decide) (by decide) rfl (by decide) ?_
        exact zl_case zl_k13 (hp (13, 4, 13, 105) (by decide)) C hi5 hI I hl again
      · refine lv_tableIn (off := 540) (tgt := 572) C.1 C.2.1 dl_32 (by decide) (by decide) rfl (by decide) ?_
        exact zl_case zl_k14 (hp (14, 2, 14, 107) (by decide)) C hi5 hI I hl again
      · refine lv_tableIn (off := 573) (tgt := 605) C.1 C.2.1 dl_32 (by decide) (by decide) rfl (by decide) ?_
        exact zl_case zl_k15 (hp (15, 0, 15, 115) (by decide)) C hi5 hI I hl again
      · refine lv_tableIn (off := 586) (tgt := 618) C.1 C.2.1 dl_32 (by decide) (by decide) rfl (by decide) ?_
        exact zl_case zl_k16 (hp (16, 0, 16, 116) (by decide)) C hi5 hI I hl again
      · refine lv_tableIn (off := 599) (tgt := 631) C.1 C.2.1 dl_32 (by decide) (by decide) rfl (by decide) ?_
        exact zl_case zl_k17 (hp (17, 1, 17, 117) (by decide)) C hi5 hI I hl again
      · refine lv_tableIn (off := 622) (tgt := 654) C.1 C.2.1 dl_32 (by decide) (by decide) rfl (by decide) ?_
        exact zl_case zl_k18 (hp (18, 3, 18, 119) (by decide)) C hi5 hI I hl again
      · refine lv_tableIn (off := 665) (tgt := 697) C.1 C.2.1 dl_32 (by decide) (by decide) rfl (by decide) ?_
        exact zl_case zl_k19 (hp (19, 3, 19, 122) (by decide)) C hi5 hI I hl again
      · refine lv_tableIn (off := 708) (tgt := 740) C.1 C.2.1 dl_32 (by decide) (by decide) rfl (by decide) ?_
        exact zl_case zl_k20 (hp (20, 3, 20, 123) (by decide)) C hi5 hI I hl again
      · refine lv_tableIn (off := 751) (tgt := 783) C.1 C.2.1 dl_32 (by decide) (by decide) rfl (by decide) ?_
        exact zl_case zl_k21 (hp (21, 1, 21, 124) (by decide)) C hi5 hI I hl again
      · refine lv_tableIn (off := 774) (tgt := 806) C.1 C.2.1 dl_32 (by decide) (by decide) rfl (by decide) ?_
        exact zl_case zl_k22 (hp (22, 1, 22, 125) (by decide)) C hi5 hI I hl again
      · refine lv_tableIn (off := 797) (tgt := 829) C.1 C.2.1 dl_32 (by decide) (by decide) rfl (by decide) ?_
        exact zl_case zl_k23 (hp (23, 3, 23, 126) (by decide)) C hi5 hI I hl again
      · refine lv_tableIn (off := 840) (tgt := 872) C.1 C.2.1 dl_32 (by decide) (by decide) rfl (by decide) ?_
        exact zl_case zl_k24 (hp (24, 3, 24, 127) (by decide)) C hi5 hI I hl again
      · refine lv_tableIn (off := 883) (tgt := 915) C.1 C.2.1 dl_32 (by decide) (by decide) rfl (by decide) ?_
        exact zl_case zl_k25 (hp (25, 4, 25, 129) (by decide)) C hi5 hI I hl again
      · refine lv_tableIn (off := 936) (tgt := 968) C.1 C.2.1 dl_32 (by decide) (by decide) rfl (by decide) ?_
        exact zl_case zl_k26 (hp (26, 0, 26, 130) (by decide)) C hi5 hI I hl again
      · refine lv_tableIn (off := 949) (tgt := 981) C.1 C.2.1 dl_32 (by decide) (by decide) rfl (by decide) ?_
        exact zl_case zl_k27 (hp (27, 1, 27, 132) (by decide)) C hi5 hI I hl again
      · refine lv_tableOut (tgt := 1004) C.1 C.2.1 dl_32 (Or.inr (by decide)) (by decide) ?_
        exact again h hI H locs I
      · refine lv_tableOut (tgt := 1004) C.1 C.2.1 dl_32 (Or.inr (by decide)) (by decide) ?_
        exact again h hI H locs I
      · refine lv_tableOut (tgt := 1004) C.1 C.2.1 dl_32 (Or.inr (by decide)) (by decide) ?_
        exact again h hI H locs I
      · refine lv_tableOut (tgt := 1004) C.1 C.2.1 dl_32 (Or.inr (by decide)) (by decide) ?_
        exact again h hI H locs I
end ZL
end
section
/-! THE BUILDER: what constructors make, by program; cells by their number -/
/-- a cell: its tag (0 an object, 1 ints, 2 bytes, 3 booleans, 4, 5 rows of objects), its class or its length, fields (or what a row of objects holds), what was written into a row of numbers, the latest first -/
abbrev zbC : Type := Nat × Nat × List (Option zV) × List (Nat × Int)
abbrev zbX : Type := List zbC
/-- PointMaker$Division.<init> -/
def zbt_0 : List zE := [
  (0, .aload_n 0, 1, 0, 0, 0, []),
  (1, .invokespecial 3, 3, 99, 1, 0, [(270, 0)]),
  (4, .aload_n 0, 1, 0, 0, 0, []),
  (5, .bipush 8, 2, 0, 0, 8, []),
  (7, .newarray .int, 2, 0, 1, 0, [(199, 0)]),
  (9, .putfield 9, 3, 0, 0, 2, [(271, 9)]),
  (12, .return_, 1, 0, 0, 0, []),
  (13, .nop, 0, 0, 0, 0, [])]
/-- PointMaker$Letters.<init> -/
def zbt_1 : List zE := [
  (0, .aload_n 0, 1, 0, 0, 0, []),
  (1, .invokespecial 3, 3, 99, 1, 0, [(319, 0)]),
  (4, .aload_n 0, 1, 0, 0, 0, []),
  (5, .sipush 512, 3, 0, 0, 512, []),
  (8, .newarray .byte, 2, 0, 2, 0, [(136, 0)]),
  (10, .putfield 9, 3, 1, 0, 2, [(320, 9)]),
  (13, .return_, 1, 0, 0, 0, []),
  (14, .nop, 0, 0, 0, 0, [])]
/-- PointMaker$Points.<init> -/
def zbt_2 : List zE := [
  (0, .aload_n 0, 1, 0, 0, 0, []),
  (1, .invokespecial 3, 3, 99, 1, 0, [(264, 0)]),
  (4, .aload_n 0, 1, 0, 0, 0, []),
  (5, .new 9, 3, 0, 0, 0, [(265, 0), (266, 0), (96, 0)]),
  (8, .dup, 1, 0, 0, 0, []),
  (9, .invokespecial 11, 3, 0, 1, 0, [(267, 1)]),
  (12, .putfield 12, 3, 2, 0, 2, [(283, 12)]),
  (15, .aload_n 0, 1, 0, 0, 0, []),
  (16, .new 18, 3, 8, 0, 0, [(281, 0), (138, 0), (93, 0)]),
  (19, .dup, 1, 0, 0, 0, []),
  (20, .bipush 40, 2, 0, 0, 40, []),
  (22, .sipush 960, 3, 0, 0, 960, []),
  (25, .invokespecial 20, 3, 8, 3, 0, [(282, 0)]),
  (28, .putfield 23, 3, 2, 1, 2, [(285, 23)]),
  (31, .aload_n 0, 1, 0, 0, 0, []),
  (32, .bipush 40, 2, 0, 0, 40, []),
  (34, .newarray .int, 2, 0, 1, 0, [(199, 0)]),
  (36, .putfield 27, 3, 2, 2, 2, [(287, 27)]),
  (39, .aload_n 0, 1, 0, 0, 0, []),
  (40, .bipush 40, 2, 0, 0, 40, []),
  (42, .newarray .int, 2, 0, 1, 0, [(199, 0)]),
  (44, .putfield 31, 3, 2, 3, 2, [(289, 31)]),
  (47, .aload_n 0, 1, 0, 0, 0, []),
  (48, .sipush 240, 3, 0, 0, 240, []),
  (51, .newarray .int, 2, 0, 1, 0, [(199, 0)]),
  (53, .putfield 34, 3, 2, 4, 2, [(291, 34)]),
  (56, .aload_n 0, 1, 0, 0, 0, []),
  (57, .bipush 6, 2, 0, 0, 6, []),
  (59, .newarray .int, 2, 0, 1, 0, [(199, 0)]),
  (61, .putfield 37, 3, 2, 6, 2, [(295, 37)]),
  (64, .aload_n 0, 1, 0, 0, 0, []),
  (65, .bipush 6, 2, 0, 0, 6, []),
  (67, .newarray .int, 2, 0, 1, 0, [(199, 0)]),
  (69, .putfield 40, 3, 2, 7, 2, [(296, 40)]),
  (72, .return_, 1, 0, 0, 0, []),
  (73, .nop, 0, 0, 0, 0, [])]
/-- PointMaker$Program.<init> -/
def zbt_3 : List zE := [
  (0, .aload_n 0, 1, 0, 0, 0, []),
  (1, .invokespecial 3, 3, 99, 1, 0, [(234, 0)]),
  (4, .aload_n 0, 1, 0, 0, 0, []),
  (5, .new 9, 3, 8, 0, 0, [(235, 0), (138, 0), (93, 0)]),
  (8, .dup, 1, 0, 0, 0, []),
  (9, .bipush 8, 2, 0, 0, 8, []),
  (11, .bipush 24, 2, 0, 0, 24, []),
  (13, .invokespecial 11, 3, 8, 3, 0, [(236, 0)]),
  (16, .putfield 14, 3, 3, 0, 2, [(241, 14)]),
  (19, .aload_n 0, 1, 0, 0, 0, []),
  (20, .bipush 6, 2, 0, 0, 6, []),
  (22, .newarray .int, 2, 0, 1, 0, [(199, 0)]),
  (24, .putfield 20, 3, 3, 1, 2, [(245, 20)]),
  (27, .aload_n 0, 1, 0, 0, 0, []),
  (28, .invokevirtual 24, 3, 11, 1, 0, [(237, 0)]),
  (31, .return_, 1, 0, 0, 0, []),
  (32, .nop, 0, 0, 0, 0, [])]
/-- PointMaker$Reader.<init> -/
def zbt_4 : List zE := [
  (0, .aload_n 0, 1, 0, 0, 0, []),
  (1, .invokespecial 3, 3, 99, 1, 0, [(120, 0)]),
  (4, .aload_n 0, 1, 0, 0, 0, []),
  (5, .new 9, 3, 7, 0, 0, [(121, 0), (122, 0), (92, 0)]),
  (8, .dup, 1, 0, 0, 0, []),
  (9, .invokespecial 11, 3, 7, 1, 0, [(123, 1)]),
  (12, .putfield 12, 3, 4, 0, 2, [(200, 12)]),
  (15, .aload_n 0, 1, 0, 0, 0, []),
  (16, .new 18, 3, 8, 0, 0, [(137, 0), (138, 0), (93, 0)]),
  (19, .dup, 1, 0, 0, 0, []),
  (20, .bipush 8, 2, 0, 0, 8, []),
  (22, .bipush 24, 2, 0, 0, 24, []),
  (24, .invokespecial 20, 3, 8, 3, 0, [(139, 0)]),
  (27, .putfield 23, 3, 4, 1, 2, [(202, 23)]),
  (30, .return_, 1, 0, 0, 0, []),
  (31, .nop, 0, 0, 0, 0, [])]
/-- PointMaker$Run.<init> -/
def zbt_5 : List zE := [
  (0, .aload_n 0, 1, 0, 0, 0, []),
  (1, .invokespecial 3, 3, 99, 1, 0, [(333, 0)]),
  (4, .aload_n 0, 1, 0, 0, 0, []),
  (5, .bipush 6, 2, 0, 0, 6, []),
  (7, .newarray .int, 2, 0, 1, 0, [(199, 0)]),
  (9, .putfield 9, 3, 5, 0, 2, [(334, 9)]),
  (12, .return_, 1, 0, 0, 0, []),
  (13, .nop, 0, 0, 0, 0, [])]
/-- PointMaker$Sheet.<init> -/
def zbt_6 : List zE := [
  (0, .aload_n 0, 1, 0, 0, 0, []),
  (1, .invokespecial 3, 3, 99, 1, 0, [(365, 0)]),
  (4, .aload_n 0, 1, 0, 0, 0, []),
  (5, .bipush 40, 2, 0, 0, 40, []),
  (7, .newarray .int, 2, 0, 1, 0, [(199, 0)]),
  (9, .putfield 9, 3, 6, 0, 2, [(366, 9)]),
  (12, .aload_n 0, 1, 0, 0, 0, []),
  (13, .bipush (-4), 2, 0, 0, (-4), []),
  (15, .putfield 15, 3, 6, 1, 0, [(367, 15)]),
  (18, .return_, 1, 0, 0, 0, []),
  (19, .nop, 0, 0, 0, 0, [])]
/-- PointMaker$Tape.<init> -/
def zbt_7 : List zE := [
  (0, .aload_n 0, 1, 0, 0, 0, []),
  (1, .invokespecial 3, 3, 99, 1, 0, [(126, 0)]),
  (4, .aload_n 0, 1, 0, 0, 0, []),
  (5, .sipush 320, 3, 0, 0, 320, []),
  (8, .newarray .byte, 2, 0, 2, 0, [(136, 0)]),
  (10, .putfield 9, 3, 7, 0, 2, [(127, 9)]),
  (13, .return_, 1, 0, 0, 0, []),
  (14, .nop, 0, 0, 0, 0, [])]
/-- PointMaker$Web.<init> -/
def zbt_8 : List zE := [
  (0, .aload_n 0, 1, 0, 0, 0, []),
  (1, .invokespecial 3, 3, 99, 1, 0, [(142, 0)]),
  (4, .aload_n 0, 1, 0, 0, 0, []),
  (5, .iload_n 1, 1, 1, 0, 0, []),
  (6, .newarray .int, 2, 0, 1, 0, [(199, 0)]),
  (8, .putfield 9, 3, 8, 0, 2, [(143, 9)]),
  (11, .aload_n 0, 1, 0, 0, 0, []),
  (12, .iload_n 1, 1, 1, 0, 0, []),
  (13, .newarray .int, 2, 0, 1, 0, [(199, 0)]),
  (15, .putfield 15, 3, 8, 1, 2, [(149, 15)]),
  (18, .aload_n 0, 1, 0, 0, 0, []),
  (19, .iload_n 1, 1, 1, 0, 0, []),
  (20, .newarray .int, 2, 0, 1, 0, [(199, 0)]),
  (22, .putfield 18, 3, 8, 2, 2, [(155, 18)]),
  (25, .aload_n 0, 1, 0, 0, 0, []),
  (26, .iload_n 1, 1, 1, 0, 0, []),
  (27, .newarray .int, 2, 0, 1, 0, [(199, 0)]),
  (29, .putfield 21, 3, 8, 3, 2, [(158, 21)]),
  (32, .aload_n 0, 1, 0, 0, 0, []),
  (33, .iload_n 1, 1, 1, 0, 0, []),
  (34, .newarray .int, 2, 0, 1, 0, [(199, 0)]),
  (36, .putfield 24, 3, 8, 4, 2, [(162, 24)]),
  (39, .aload_n 0, 1, 0, 0, 0, []),
  (40, .iload_n 1, 1, 1, 0, 0, []),
  (41, .newarray .int, 2, 0, 1, 0, [(199, 0)]),
  (43, .putfield 27, 3, 8, 5, 2, [(166, 27)]),
  (46, .aload_n 0, 1, 0, 0, 0, []),
  (47, .iload_n 2, 1, 2, 0, 0, []),
  (48, .iconst 5, 1, 0, 0, 5, []),
  (49, .imul, 1, 0, 0, 0, []),
  (50, .newarray .int, 2, 0, 1, 0, [(199, 0)]),
  (52, .putfield 30, 3, 8, 6, 2, [(169, 30)]),
  (55, .return_, 1, 0, 0, 0, []),
  (56, .nop, 0, 0, 0, 0, [])]
/-- PointMaker.<init> -/
def zbt_9 : List zE := [
  (0, .aload_n 0, 1, 0, 0, 0, []),
  (1, .invokespecial 1, 3, 99, 1, 0, [(112, 0)]),
  (4, .aload_n 0, 1, 0, 0, 0, []),
  (5, .new 7, 3, 4, 0, 0, [(115, 0), (116, 0), (91, 0)]),
  (8, .dup, 1, 0, 0, 0, []),
  (9, .invokespecial 9, 3, 4, 1, 0, [(117, 1)]),
  (12, .putfield 10, 3, 9, 0, 2, [(378, 10)]),
  (15, .aload_n 0, 1, 0, 0, 0, []),
  (16, .new 16, 3, 3, 0, 0, [(229, 0), (230, 0), (94, 0)]),
  (19, .dup, 1, 0, 0, 0, []),
  (20, .invokespecial 18, 3, 3, 1, 0, [(231, 0)]),
  (23, .putfield 19, 3, 9, 1, 2, [(379, 19)]),
  (26, .aload_n 0, 1, 0, 0, 0, []),
  (27, .iconst 2, 1, 0, 0, 2, []),
  (28, .anewarray 16, 3, 0, 4, 0, [(229, 0)]),
  (31, .putfield 23, 3, 9, 2, 2, [(380, 23)]),
  (34, .iconst 0, 1, 0, 0, 0, []),
  (35, .istore_n 1, 1, 1, 0, 0, []),
  (36, .iload_n 1, 1, 1, 0, 0, []),
  (37, .iconst 2, 1, 0, 0, 2, []),
  (38, .if_icmp .ge 22, 3, 30, 0, 0, []),
  (41, .aload_n 0, 1, 0, 0, 0, []),
  (42, .getfield 23, 3, 9, 2, 0, [(380, 23)]),
  (45, .iload_n 1, 1, 1, 0, 0, []),
  (46, .new 16, 3, 3, 0, 0, [(229, 0), (230, 0), (94, 0)]),
  (49, .dup, 1, 0, 0, 0, []),
  (50, .invokespecial 18, 3, 3, 1, 0, [(231, 0)]),
  (53, .aastore, 1, 0, 0, 0, []),
  (54, .iinc 1 1, 3, 1, 0, 1, []),
  (57, .goto (-21), 3, 18, 0, 0, []),
  (60, .aload_n 0, 1, 0, 0, 0, []),
  (61, .iconst 2, 1, 0, 0, 2, []),
  (62, .newarray .boolean, 2, 0, 3, 0, [(280, 0)]),
  (64, .putfield 27, 3, 9, 3, 2, [(381, 27)]),
  (67, .aload_n 0, 1, 0, 0, 0, []),
  (68, .new 31, 3, 2, 0, 0, [(259, 0), (260, 0), (95, 0)]),
  (71, .dup, 1, 0, 0, 0, []),
  (72, .invokespecial 33, 3, 2, 1, 0, [(261, 1)]),
  (75, .putfield 34, 3, 9, 4, 2, [(382, 34)]),
  (78, .aload_n 0, 1, 0, 0, 0, []),
  (79, .new 38, 3, 1, 0, 0, [(314, 0), (315, 0), (97, 0)]),
  (82, .dup, 1, 0, 0, 0, []),
  (83, .invokespecial 40, 3, 1, 1, 0, [(316, 1)]),
  (86, .putfield 41, 3, 9, 5, 2, [(383, 41)]),
  (89, .aload_n 0, 1, 0, 0, 0, []),
  (90, .new 38, 3, 1, 0, 0, [(314, 0), (315, 0), (97, 0)]),
  (93, .dup, 1, 0, 0, 0, []),
  (94, .invokespecial 40, 3, 1, 1, 0, [(316, 1)]),
  (97, .putfield 45, 3, 9, 6, 2, [(384, 45)]),
  (100, .aload_n 0, 1, 0, 0, 0, []),
  (101, .new 48, 3, 5, 0, 0, [(328, 0), (329, 0), (98, 0)]),
  (104, .dup, 1, 0, 0, 0, []),
  (105, .invokespecial 50, 3, 5, 1, 0, [(330, 1)]),
  (108, .putfield 51, 3, 9, 7, 2, [(385, 51)]),
  (111, .aload_n 0, 1, 0, 0, 0, []),
  (112, .new 48, 3, 5, 0, 0, [(328, 0), (329, 0), (98, 0)]),
  (115, .dup, 1, 0, 0, 0, []),
  (116, .invokespecial 50, 3, 5, 1, 0, [(330, 1)]),
  (119, .putfield 55, 3, 9, 8, 2, [(386, 55)]),
  (122, .aload_n 0, 1, 0, 0, 0, []),
  (123, .new 48, 3, 5, 0, 0, [(328, 0), (329, 0), (98, 0)]),
  (126, .dup, 1, 0, 0, 0, []),
  (127, .invokespecial 50, 3, 5, 1, 0, [(330, 1)]),
  (130, .putfield 58, 3, 9, 9, 2, [(387, 58)]),
  (133, .aload_n 0, 1, 0, 0, 0, []),
  (134, .bipush 6, 2, 0, 0, 6, []),
  (136, .newarray .int, 2, 0, 1, 0, [(199, 0)]),
  (138, .putfield 61, 3, 9, 10, 2, [(388, 61)]),
  (141, .aload_n 0, 1, 0, 0, 0, []),
  (142, .bipush 6, 2, 0, 0, 6, []),
  (144, .newarray .int, 2, 0, 1, 0, [(199, 0)]),
  (146, .putfield 65, 3, 9, 11, 2, [(389, 65)]),
  (149, .aload_n 0, 1, 0, 0, 0, []),
  (150, .iconst 4, 1, 0, 0, 4, []),
  (151, .anewarray 68, 3, 0, 5, 0, [(359, 0)]),
  (154, .putfield 70, 3, 9, 12, 2, [(390, 70)]),
  (157, .iconst 0, 1, 0, 0, 0, []),
  (158, .istore_n 1, 1, 1, 0, 0, []),
  (159, .iload_n 1, 1, 1, 0, 0, []),
  (160, .iconst 4, 1, 0, 0, 4, []),
  (161, .if_icmp .ge 22, 3, 90, 0, 0, []),
  (164, .aload_n 0, 1, 0, 0, 0, []),
  (165, .getfield 70, 3, 9, 12, 0, [(390, 70)]),
  (168, .iload_n 1, 1, 1, 0, 0, []),
  (169, .new 68, 3, 6, 0, 0, [(359, 0), (361, 0), (99, 0)]),
  (172, .dup, 1, 0, 0, 0, []),
  (173, .invokespecial 74, 3, 6, 1, 0, [(362, 1)]),
  (176, .aastore, 1, 0, 0, 0, []),
  (177, .iinc 1 1, 3, 1, 0, 1, []),
  (180, .goto (-21), 3, 78, 0, 0, []),
  (183, .aload_n 0, 1, 0, 0, 0, []),
  (184, .bipush (-4), 2, 0, 0, (-4), []),
  (186, .putfield 75, 3, 9, 14, 0, [(392, 75)]),
  (189, .aload_n 0, 1, 0, 0, 0, []),
  (190, .iconst 1, 1, 0, 0, 1, []),
  (191, .putfield 79, 3, 9, 16, 1, [(394, 79)]),
  (194, .return_, 1, 0, 0, 0, []),
  (195, .nop, 0, 0, 0, 0, [])]
/-- PointMakerModel.<init> -/
def zbt_10 : List zE := [
  (0, .aload_n 0, 1, 0, 0, 0, []),
  (1, .invokespecial 1, 3, 99, 1, 0, [(1002, 0)]),
  (4, .aload_n 0, 1, 0, 0, 0, []),
  (5, .sipush 708, 3, 0, 0, 708, []),
  (8, .newarray .int, 2, 0, 1, 0, [(199, 0)]),
  (10, .putfield 7, 3, 10, 0, 2, [(1003, 7)]),
  (13, .aload_n 0, 1, 0, 0, 0, []),
  (14, .sipush 320, 3, 0, 0, 320, []),
  (17, .newarray .int, 2, 0, 1, 0, [(199, 0)]),
  (19, .putfield 13, 3, 10, 1, 2, [(1004, 13)]),
  (22, .aload_n 0, 1, 0, 0, 0, []),
  (23, .bipush 11, 2, 0, 0, 11, []),
  (25, .newarray .int, 2, 0, 1, 0, [(199, 0)]),
  (27, .dup, 1, 0, 0, 0, []),
  (28, .iconst 0, 1, 0, 0, 0, []),
  (29, .iconst 0, 1, 0, 0, 0, []),
  (30, .iastore, 1, 0, 0, 0, []),
  (31, .dup, 1, 0, 0, 0, []),
  (32, .iconst 1, 1, 0, 0, 1, []),
  (33, .iconst 3, 1, 0, 0, 3, []),
  (34, .iastore, 1, 0, 0, 0, []),
  (35, .dup, 1, 0, 0, 0, []),
  (36, .iconst 2, 1, 0, 0, 2, []),
  (37, .bipush 6, 2, 0, 0, 6, []),
  (39, .iastore, 1, 0, 0, 0, []),
  (40, .dup, 1, 0, 0, 0, []),
  (41, .iconst 3, 1, 0, 0, 3, []),
  (42, .bipush 10, 2, 0, 0, 10, []),
  (44, .iastore, 1, 0, 0, 0, []),
  (45, .dup, 1, 0, 0, 0, []),
  (46, .iconst 4, 1, 0, 0, 4, []),
  (47, .bipush 12, 2, 0, 0, 12, []),
  (49, .iastore, 1, 0, 0, 0, []),
  (50, .dup, 1, 0, 0, 0, []),
  (51, .iconst 5, 1, 0, 0, 5, []),
  (52, .bipush 16, 2, 0, 0, 16, []),
  (54, .iastore, 1, 0, 0, 0, []),
  (55, .dup, 1, 0, 0, 0, []),
  (56, .bipush 6, 2, 0, 0, 6, []),
  (58, .bipush 21, 2, 0, 0, 21, []),
  (60, .iastore, 1, 0, 0, 0, []),
  (61, .dup, 1, 0, 0, 0, []),
  (62, .bipush 7, 2, 0, 0, 7, []),
  (64, .bipush 25, 2, 0, 0, 25, []),
  (66, .iastore, 1, 0, 0, 0, []),
  (67, .dup, 1, 0, 0, 0, []),
  (68, .bipush 8, 2, 0, 0, 8, []),
  (70, .bipush 29, 2, 0, 0, 29, []),
  (72, .iastore, 1, 0, 0, 0, []),
  (73, .dup, 1, 0, 0, 0, []),
  (74, .bipush 9, 2, 0, 0, 9, []),
  (76, .bipush 33, 2, 0, 0, 33, []),
  (78, .iastore, 1, 0, 0, 0, []),
  (79, .dup, 1, 0, 0, 0, []),
  (80, .bipush 10, 2, 0, 0, 10, []),
  (82, .bipush 37, 2, 0, 0, 37, []),
  (84, .iastore, 1, 0, 0, 0, []),
  (85, .putfield 16, 3, 10, 10, 2, [(1013, 16)]),
  (88, .aload_n 0, 1, 0, 0, 0, []),
  (89, .bipush 37, 2, 0, 0, 37, []),
  (91, .newarray .int, 2, 0, 1, 0, [(199, 0)]),
  (93, .dup, 1, 0, 0, 0, []),
  (94, .iconst 0, 1, 0, 0, 0, []),
  (95, .bipush 115, 2, 0, 0, 115, []),
  (97, .iastore, 1, 0, 0, 0, []),
  (98, .dup, 1, 0, 0, 0, []),
  (99, .iconst 1, 1, 0, 0, 1, []),
  (100, .bipush 101, 2, 0, 0, 101, []),
  (102, .iastore, 1, 0, 0, 0, []),
  (103, .dup, 1, 0, 0, 0, []),
  (104, .iconst 2, 1, 0, 0, 2, []),
  (105, .bipush 116, 2, 0, 0, 116, []),
  (107, .iastore, 1, 0, 0, 0, []),
  (108, .dup, 1, 0, 0, 0, []),
  (109, .iconst 3, 1, 0, 0, 3, []),
  (110, .bipush 115, 2, 0, 0, 115, []),
  (112, .iastore, 1, 0, 0, 0, []),
  (113, .dup, 1, 0, 0, 0, []),
  (114, .iconst 4, 1, 0, 0, 4, []),
  (115, .bipush 97, 2, 0, 0, 97, []),
  (117, .iastore, 1, 0, 0, 0, []),
  (118, .dup, 1, 0, 0, 0, []),
  (119, .iconst 5, 1, 0, 0, 5, []),
  (120, .bipush 121, 2, 0, 0, 121, []),
  (122, .iastore, 1, 0, 0, 0, []),
  (123, .dup, 1, 0, 0, 0, []),
  (124, .bipush 6, 2, 0, 0, 6, []),
  (126, .bipush 103, 2, 0, 0, 103, []),
  (128, .iastore, 1, 0, 0, 0, []),
  (129, .dup, 1, 0, 0, 0, []),
  (130, .bipush 7, 2, 0, 0, 7, []),
  (132, .bipush 111, 2, 0, 0, 111, []),
  (134, .iastore, 1, 0, 0, 0, []),
  (135, .dup, 1, 0, 0, 0, []),
  (136, .bipush 8, 2, 0, 0, 8, []),
  (138, .bipush 116, 2, 0, 0, 116, []),
  (140, .iastore, 1, 0, 0, 0, []),
  (141, .dup, 1, 0, 0, 0, []),
  (142, .bipush 9, 2, 0, 0, 9, []),
  (144, .bipush 111, 2, 0, 0, 111, []),
  (146, .iastore, 1, 0, 0, 0, []),
  (147, .dup, 1, 0, 0, 0, []),
  (148, .bipush 10, 2, 0, 0, 10, []),
  (150, .bipush 105, 2, 0, 0, 105, []),
  (152, .iastore, 1, 0, 0, 0, []),
  (153, .dup, 1, 0, 0, 0, []),
  (154, .bipush 11, 2, 0, 0, 11, []),
  (156, .bipush 102, 2, 0, 0, 102, []),
  (158, .iastore, 1, 0, 0, 0, []),
  (159, .dup, 1, 0, 0, 0, []),
  (160, .bipush 12, 2, 0, 0, 12, []),
  (162, .bipush 115, 2, 0, 0, 115, []),
  (164, .iastore, 1, 0, 0, 0, []),
  (165, .dup, 1, 0, 0, 0, []),
  (166, .bipush 13, 2, 0, 0, 13, []),
  (168, .bipush 116, 2, 0, 0, 116, []),
  (170, .iastore, 1, 0, 0, 0, []),
  (171, .dup, 1, 0, 0, 0, []),
  (172, .bipush 14, 2, 0, 0, 14, []),
  (174, .bipush 111, 2, 0, 0, 111, []),
  (176, .iastore, 1, 0, 0, 0, []),
  (177, .dup, 1, 0, 0, 0, []),
  (178, .bipush 15, 2, 0, 0, 15, []),
  (180, .bipush 112, 2, 0, 0, 112, []),
  (182, .iastore, 1, 0, 0, 0, []),
  (183, .dup, 1, 0, 0, 0, []),
  (184, .bipush 16, 2, 0, 0, 16, []),
  (186, .bipush 98, 2, 0, 0, 98, []),
  (188, .iastore, 1, 0, 0, 0, []),
  (189, .dup, 1, 0, 0, 0, []),
  (190, .bipush 17, 2, 0, 0, 17, []),
  (192, .bipush 108, 2, 0, 0, 108, []),
  (194, .iastore, 1, 0, 0, 0, []),
  (195, .dup, 1, 0, 0, 0, []),
  (196, .bipush 18, 2, 0, 0, 18, []),
  (198, .bipush 111, 2, 0, 0, 111, []),
  (200, .iastore, 1, 0, 0, 0, []),
  (201, .dup, 1, 0, 0, 0, []),
  (202, .bipush 19, 2, 0, 0, 19, []),
  (204, .bipush 99, 2, 0, 0, 99, []),
  (206, .iastore, 1, 0, 0, 0, []),
  (207, .dup, 1, 0, 0, 0, []),
  (208, .bipush 20, 2, 0, 0, 20, []),
  (210, .bipush 107, 2, 0, 0, 107, []),
  (212, .iastore, 1, 0, 0, 0, []),
  (213, .dup, 1, 0, 0, 0, []),
  (214, .bipush 21, 2, 0, 0, 21, []),
  (216, .bipush 112, 2, 0, 0, 112, []),
  (218, .iastore, 1, 0, 0, 0, []),
  (219, .dup, 1, 0, 0, 0, []),
  (220, .bipush 22, 2, 0, 0, 22, []),
  (222, .bipush 108, 2, 0, 0, 108, []),
  (224, .iastore, 1, 0, 0, 0, []),
  (225, .dup, 1, 0, 0, 0, []),
  (226, .bipush 23, 2, 0, 0, 23, []),
  (228, .bipush 117, 2, 0, 0, 117, []),
  (230, .iastore, 1, 0, 0, 0, []),
  (231, .dup, 1, 0, 0, 0, []),
  (232, .bipush 24, 2, 0, 0, 24, []),
  (234, .bipush 115, 2, 0, 0, 115, []),
  (236, .iastore, 1, 0, 0, 0, []),
  (237, .dup, 1, 0, 0, 0, []),
  (238, .bipush 25, 2, 0, 0, 25, []),
  (240, .bipush 108, 2, 0, 0, 108, []),
  (242, .iastore, 1, 0, 0, 0, []),
  (243, .dup, 1, 0, 0, 0, []),
  (244, .bipush 26, 2, 0, 0, 26, []),
  (246, .bipush 101, 2, 0, 0, 101, []),
  (248, .iastore, 1, 0, 0, 0, []),
  (249, .dup, 1, 0, 0, 0, []),
  (250, .bipush 27, 2, 0, 0, 27, []),
  (252, .bipush 115, 2, 0, 0, 115, []),
  (254, .iastore, 1, 0, 0, 0, []),
  (255, .dup, 1, 0, 0, 0, []),
  (256, .bipush 28, 2, 0, 0, 28, []),
  (258, .bipush 115, 2, 0, 0, 115, []),
  (260, .iastore, 1, 0, 0, 0, []),
  (261, .dup, 1, 0, 0, 0, []),
  (262, .bipush 29, 2, 0, 0, 29, []),
  (264, .bipush 115, 2, 0, 0, 115, []),
  (266, .iastore, 1, 0, 0, 0, []),
  (267, .dup, 1, 0, 0, 0, []),
  (268, .bipush 30, 2, 0, 0, 30, []),
  (270, .bipush 97, 2, 0, 0, 97, []),
  (272, .iastore, 1, 0, 0, 0, []),
  (273, .dup, 1, 0, 0, 0, []),
  (274, .bipush 31, 2, 0, 0, 31, []),
  (276, .bipush 109, 2, 0, 0, 109, []),
  (278, .iastore, 1, 0, 0, 0, []),
  (279, .dup, 1, 0, 0, 0, []),
  (280, .bipush 32, 2, 0, 0, 32, []),
  (282, .bipush 101, 2, 0, 0, 101, []),
  (284, .iastore, 1, 0, 0, 0, []),
  (285, .dup, 1, 0, 0, 0, []),
  (286, .bipush 33, 2, 0, 0, 33, []),
  (288, .bipush 109, 2, 0, 0, 109, []),
  (290, .iastore, 1, 0, 0, 0, []),
  (291, .dup, 1, 0, 0, 0, []),
  (292, .bipush 34, 2, 0, 0, 34, []),
  (294, .bipush 111, 2, 0, 0, 111, []),
  (296, .iastore, 1, 0, 0, 0, []),
  (297, .dup, 1, 0, 0, 0, []),
  (298, .bipush 35, 2, 0, 0, 35, []),
  (300, .bipush 114, 2, 0, 0, 114, []),
  (302, .iastore, 1, 0, 0, 0, []),
  (303, .dup, 1, 0, 0, 0, []),
  (304, .bipush 36, 2, 0, 0, 36, []),
  (306, .bipush 101, 2, 0, 0, 101, []),
  (308, .iastore, 1, 0, 0, 0, []),
  (309, .putfield 19, 3, 10, 11, 2, [(1014, 19)]),
  (312, .aload_n 0, 1, 0, 0, 0, []),
  (313, .bipush 8, 2, 0, 0, 8, []),
  (315, .newarray .int, 2, 0, 1, 0, [(199, 0)]),
  (317, .putfield 22, 3, 10, 13, 2, [(1016, 22)]),
  (320, .aload_n 0, 1, 0, 0, 0, []),
  (321, .bipush 40, 2, 0, 0, 40, []),
  (323, .newarray .int, 2, 0, 1, 0, [(199, 0)]),
  (325, .putfield 25, 3, 10, 17, 2, [(1020, 25)]),
  (328, .aload_n 0, 1, 0, 0, 0, []),
  (329, .sipush 240, 3, 0, 0, 240, []),
  (332, .newarray .int, 2, 0, 1, 0, [(199, 0)]),
  (334, .putfield 28, 3, 10, 18, 2, [(1021, 28)]),
  (337, .aload_n 0, 1, 0, 0, 0, []),
  (338, .bipush 40, 2, 0, 0, 40, []),
  (340, .newarray .int, 2, 0, 1, 0, [(199, 0)]),
  (342, .putfield 31, 3, 10, 19, 2, [(1022, 31)]),
  (345, .aload_n 0, 1, 0, 0, 0, []),
  (346, .bipush 40, 2, 0, 0, 40, []),
  (348, .newarray .int, 2, 0, 1, 0, [(199, 0)]),
  (350, .putfield 34, 3, 10, 20, 2, [(1023, 34)]),
  (353, .aload_n 0, 1, 0, 0, 0, []),
  (354, .bipush 40, 2, 0, 0, 40, []),
  (356, .newarray .int, 2, 0, 1, 0, [(199, 0)]),
  (358, .putfield 37, 3, 10, 21, 2, [(1024, 37)]),
  (361, .aload_n 0, 1, 0, 0, 0, []),
  (362, .bipush 40, 2, 0, 0, 40, []),
  (364, .newarray .int, 2, 0, 1, 0, [(199, 0)]),
  (366, .putfield 40, 3, 10, 22, 2, [(1025, 40)]),
  (369, .aload_n 0, 1, 0, 0, 0, []),
  (370, .bipush 40, 2, 0, 0, 40, []),
  (372, .newarray .int, 2, 0, 1, 0, [(199, 0)]),
  (374, .putfield 43, 3, 10, 23, 2, [(1026, 43)]),
  (377, .aload_n 0, 1, 0, 0, 0, []),
  (378, .sipush 4800, 3, 0, 0, 4800, []),
  (381, .newarray .int, 2, 0, 1, 0, [(199, 0)]),
  (383, .putfield 46, 3, 10, 24, 2, [(1027, 46)]),
  (386, .aload_n 0, 1, 0, 0, 0, []),
  (387, .bipush 6, 2, 0, 0, 6, []),
  (389, .newarray .int, 2, 0, 1, 0, [(199, 0)]),
  (391, .putfield 49, 3, 10, 25, 2, [(1028, 49)]),
  (394, .aload_n 0, 1, 0, 0, 0, []),
  (395, .sipush 800, 3, 0, 0, 800, []),
  (398, .newarray .int, 2, 0, 1, 0, [(199, 0)]),
  (400, .putfield 52, 3, 10, 26, 2, [(1029, 52)]),
  (403, .aload_n 0, 1, 0, 0, 0, []),
  (404, .bipush 40, 2, 0, 0, 40, []),
  (406, .newarray .int, 2, 0, 1, 0, [(199, 0)]),
  (408, .putfield 55, 3, 10, 28, 2, [(1031, 55)]),
  (411, .aload_n 0, 1, 0, 0, 0, []),
  (412, .bipush 6, 2, 0, 0, 6, []),
  (414, .newarray .int, 2, 0, 1, 0, [(199, 0)]),
  (416, .putfield 58, 3, 10, 29, 2, [(1032, 58)]),
  (419, .aload_n 0, 1, 0, 0, 0, []),
  (420, .bipush 6, 2, 0, 0, 6, []),
  (422, .newarray .int, 2, 0, 1, 0, [(199, 0)]),
  (424, .putfield 61, 3, 10, 30, 2, [(1033, 61)]),
  (427, .aload_n 0, 1, 0, 0, 0, []),
  (428, .bipush 10, 2, 0, 0, 10, []),
  (430, .newarray .int, 2, 0, 1, 0, [(199, 0)]),
  (432, .putfield 64, 3, 10, 37, 2, [(1040, 64)]),
  (435, .aload_n 0, 1, 0, 0, 0, []),
  (436, .bipush 6, 2, 0, 0, 6, []),
  (438, .newarray .int, 2, 0, 1, 0, [(199, 0)]),
  (440, .putfield 67, 3, 10, 38, 2, [(1041, 67)]),
  (443, .aload_n 0, 1, 0, 0, 0, []),
  (444, .bipush 8, 2, 0, 0, 8, []),
  (446, .newarray .int, 2, 0, 1, 0, [(199, 0)]),
  (448, .putfield 70, 3, 10, 39, 2, [(1042, 70)]),
  (451, .aload_n 0, 1, 0, 0, 0, []),
  (452, .iconst 2, 1, 0, 0, 2, []),
  (453, .newarray .boolean, 2, 0, 3, 0, [(280, 0)]),
  (455, .dup, 1, 0, 0, 0, []),
  (456, .iconst 0, 1, 0, 0, 0, []),
  (457, .iconst 0, 1, 0, 0, 0, []),
  (458, .sastore, 1, 0, 0, 0, []),
  (459, .dup, 1, 0, 0, 0, []),
  (460, .iconst 1, 1, 0, 0, 1, []),
  (461, .iconst 0, 1, 0, 0, 0, []),
  (462, .sastore, 1, 0, 0, 0, []),
  (463, .putfield 73, 3, 10, 40, 2, [(1043, 73)]),
  (466, .aload_n 0, 1, 0, 0, 0, []),
  (467, .iconst 4, 1, 0, 0, 4, []),
  (468, .newarray .int, 2, 0, 1, 0, [(199, 0)]),
  (470, .dup, 1, 0, 0, 0, []),
  (471, .iconst 0, 1, 0, 0, 0, []),
  (472, .bipush (-4), 2, 0, 0, (-4), []),
  (474, .iastore, 1, 0, 0, 0, []),
  (475, .dup, 1, 0, 0, 0, []),
  (476, .iconst 1, 1, 0, 0, 1, []),
  (477, .bipush (-4), 2, 0, 0, (-4), []),
  (479, .iastore, 1, 0, 0, 0, []),
  (480, .dup, 1, 0, 0, 0, []),
  (481, .iconst 2, 1, 0, 0, 2, []),
  (482, .bipush (-4), 2, 0, 0, (-4), []),
  (484, .iastore, 1, 0, 0, 0, []),
  (485, .dup, 1, 0, 0, 0, []),
  (486, .iconst 3, 1, 0, 0, 3, []),
  (487, .bipush (-4), 2, 0, 0, (-4), []),
  (489, .iastore, 1, 0, 0, 0, []),
  (490, .putfield 77, 3, 10, 41, 2, [(1044, 77)]),
  (493, .aload_n 0, 1, 0, 0, 0, []),
  (494, .iconst 4, 1, 0, 0, 4, []),
  (495, .newarray .int, 2, 0, 1, 0, [(199, 0)]),
  (497, .dup, 1, 0, 0, 0, []),
  (498, .iconst 0, 1, 0, 0, 0, []),
  (499, .iconst 0, 1, 0, 0, 0, []),
  (500, .iastore, 1, 0, 0, 0, []),
  (501, .dup, 1, 0, 0, 0, []),
  (502, .iconst 1, 1, 0, 0, 1, []),
  (503, .iconst 0, 1, 0, 0, 0, []),
  (504, .iastore, 1, 0, 0, 0, []),
  (505, .dup, 1, 0, 0, 0, []),
  (506, .iconst 2, 1, 0, 0, 2, []),
  (507, .iconst 0, 1, 0, 0, 0, []),
  (508, .iastore, 1, 0, 0, 0, []),
  (509, .dup, 1, 0, 0, 0, []),
  (510, .iconst 3, 1, 0, 0, 3, []),
  (511, .iconst 0, 1, 0, 0, 0, []),
  (512, .iastore, 1, 0, 0, 0, []),
  (513, .putfield 80, 3, 10, 42, 2, [(1045, 80)]),
  (516, .aload_n 0, 1, 0, 0, 0, []),
  (517, .sipush 160, 3, 0, 0, 160, []),
  (520, .newarray .int, 2, 0, 1, 0, [(199, 0)]),
  (522, .putfield 83, 3, 10, 43, 2, [(1046, 83)]),
  (525, .aload_n 0, 1, 0, 0, 0, []),
  (526, .bipush 6, 2, 0, 0, 6, []),
  (528, .newarray .int, 2, 0, 1, 0, [(199, 0)]),
  (530, .putfield 86, 3, 10, 44, 2, [(1047, 86)]),
  (533, .return_, 1, 0, 0, 0, []),
  (534, .nop, 0, 0, 0, 0, [])]
/-- PointMaker$Program.forgetGiven -/
def zbt_11 : List zE := [
  (0, .iconst 0, 1, 0, 0, 0, []),
  (1, .istore_n 1, 1, 1, 0, 0, []),
  (2, .iload_n 1, 1, 1, 0, 0, []),
  (3, .bipush 6, 2, 0, 0, 6, []),
  (5, .if_icmp .ge 17, 3, 12, 0, 0, []),
  (8, .aload_n 0, 1, 0, 0, 0, []),
  (9, .getfield 20, 3, 3, 1, 0, [(245, 20)]),
  (12, .iload_n 1, 1, 1, 0, 0, []),
  (13, .bipush (-4), 2, 0, 0, (-4), []),
  (15, .iastore, 1, 0, 0, 0, []),
  (16, .iinc 1 1, 3, 1, 0, 1, []),
  (19, .goto (-17), 3, 2, 0, 0, []),
  (22, .aload_n 0, 1, 0, 0, 0, []),
  (23, .iconst 1, 1, 0, 0, 1, []),
  (24, .putfield 31, 3, 3, 2, 0, [(249, 31)]),
  (27, .return_, 1, 0, 0, 0, []),
  (28, .nop, 0, 0, 0, 0, [])]
def zb_cds : List (List zE) := [zbt_0, zbt_1, zbt_2, zbt_3, zbt_4, zbt_5, zbt_6, zbt_7, zbt_8, zbt_9, zbt_10, zbt_11]
def zb_mts : List zT := [(⟨"PointMaker$Division", "<init>", "()V"⟩, prog_2_method_1_code, 1, none, 1, 20, 0, 269, 268, 0, 96),
  (⟨"PointMaker$Letters", "<init>", "()V"⟩, prog_3_method_1_code, 1, none, 1, 20, 1, 318, 317, 0, 97),
  (⟨"PointMaker$Points", "<init>", "()V"⟩, prog_4_method_1_code, 1, none, 2, 42, 2, 263, 262, 0, 95),
  (⟨"PointMaker$Program", "<init>", "()V"⟩, prog_5_method_1_code, 1, none, 2, 42, 3, 233, 232, 0, 94),
  (⟨"PointMaker$Reader", "<init>", "()V"⟩, prog_6_method_1_code, 1, none, 2, 42, 4, 119, 118, 0, 91),
  (⟨"PointMaker$Run", "<init>", "()V"⟩, prog_7_method_1_code, 1, none, 1, 20, 5, 332, 331, 0, 98),
  (⟨"PointMaker$Sheet", "<init>", "()V"⟩, prog_8_method_1_code, 1, none, 1, 20, 6, 364, 363, 0, 99),
  (⟨"PointMaker$Tape", "<init>", "()V"⟩, prog_9_method_1_code, 1, none, 1, 20, 7, 125, 124, 0, 92),
  (⟨"PointMaker$Web", "<init>", "(II)V"⟩, prog_10_method_1_code, 3, none, 1, 20, 8, 141, 140, 0, 93),
  (⟨"PointMaker", "<init>", "()V"⟩, prog_1_method_1_code, 2, none, 3, 62, 9, 111, 110, 0, 90),
  (⟨"PointMakerModel", "<init>", "()V"⟩, prog_12_method_1_code, 1, none, 1, 20, 10, 1001, 1000, 0, 100),
  (⟨"PointMaker$Program", "forgetGiven", "()V"⟩, prog_5_method_3_code, 2, none, 0, 0, 3, 240, 239, 0, 94)]
def zb_mcs : List (Nat × Nat) := [(1, 8), (1, 512), (15, 5391), (9, 5055), (10, 5371), (1, 6), (1, 40), (1, 320), (7, 5040), (80, 27208), (26, 7422), (0, 0)]
def zb_dfs : List (List (Option zV)) := [[none, some (.inl 0)],
  [none, some (.inl 0)],
  [none, none, none, none, none, some (.inl 0), none, none],
  [none, none, some (.inl 0)],
  [none, none, some (.inl 0), some (.inl 0), some (.inl 0), some (.inl 0), some (.inl 0), some (.inl 0)],
  [none, some (.inl 0), some (.inl 0), some (.inl 0), some (.inl 0), some (.inl 0)],
  [none, some (.inl 0), some (.inl 0)],
  [none, some (.inl 0)],
  [none, none, none, none, none, none, none, some (.inl 0), some (.inl 0)],
  [none, none, none, none, none, none, none, none, none, none, none, none, none, some (.inl 0), some (.inl 0), some (.inl 0), some (.inl 0)],
  [none, none, some (.inl 0), some (.inl 0), some (.inl 0), some (.inl 0), some (.inl 0), some (.inl 0), some (.inl 0), some (.inl 0), none, none, some (.inl 0), none, some (.inl 0), some (.inl 0), some (.inl 0), none, none, none, none, none, none, none, none, none, none, some (.inl 0), none, none, none, some (.inl 0), some (.inl 0), some (.inl 0), some (.inl 0), some (.inl 0), some (.inl 0), none, none, none, none, none, none, none, none, some (.inl 0)]]
def zb_cd (j : Nat) : List zE := zb_cds.getD j []
def zb_mt (j : Nat) : zT := zb_mts.getD j (⟨"", "", ""⟩, .empty, 0, none, 0, 0, 0, 0, 0, 0, 0)
def zb_y (j : Nat) : MethodName := (zb_mt j).1
def zb_by (j : Nat) : ByteArray := (zb_mt j).2.1
def zb_ml (j : Nat) : Nat := (zb_mt j).2.2.1
def zb_own (j : Nat) : String := (zb_y j).cls
def zb_mc (j : Nat) : Nat := (zb_mcs.getD j (0, 0)).1
def zb_ms (j : Nat) : Nat := (zb_mcs.getD j (0, 0)).2
def zb_rm (j : Nat) : Room := { frames := (zb_mt j).2.2.2.2.1, cells := zb_mc j, slots := zb_ms j, locals := (zb_mt j).2.2.2.2.2.1 }
def zb_df (a : Nat) : List (Option zV) := zb_dfs.getD a []
def zb_pc (j i : Nat) : Nat := match (zb_cd j)[i]? with
  | some e => e.1
  | none => 0
def zb_fn : List (Nat × Int) → Nat → Int
  | [], _ => 0
  | (i, v) :: r, k => if k = i then v else zb_fn r k
/-- may a value stand in a field: 0 an int, 1 a boolean, 2 a reference -/
def zb_tok (d : Int) (v : zV) : Bool := match v with
  | .inl x => decide (d = 0) || (decide (d = 1) && (decide (x = 0) || decide (x = 1)))
  | .inr (.inr _) => decide (d = 2)
  | .inr (.inl _) => false
def zb_cN (a : Nat) : Nat := (zb_mt a).2.2.2.2.2.2.1
/-- a call: its receiver is an object of its class -/
def zb_inv (call : Nat → List zV → zbX → Option zbX) (j a b i : Nat) (L : zL) (S : List zV) (X : zbX) (cu su : Nat) (K : Nat → zL → List zV → zbX → Nat → Nat → Option zbX) : Option zbX :=
  match (S.take b).reverse with
  | .inr (.inr r) :: As => match X[r]? with
    | some (0, c, _, _) => if c = zb_cN a ∧ b ≤ S.length ∧ S.length ≤ b + 3 ∧ cu + zb_mc a ≤ zb_mc j ∧ su + zb_ms a ≤ zb_ms j then (match call a (.inr (.inr r) :: As) X with
      | some X2 => K (i + 1) L (S.drop b) X2 (cu + zb_mc a) (su + zb_ms a)
      | none => none) else none
    | _ => none
  | _ => none
def zb_act (call : Nat → List zV → zbX → Option zbX) (j : Nat) (e : zE) (i : Nat) (L : zL) (S : List zV) (X : zbX) (cu su : Nat) (K : Nat → zL → List zV → zbX → Nat → Nat → Option zbX) : Option zbX :=
  match e with
  | (_, ins, _, a, b, d, _) =>
  match ins with
  | .aload_n _ => match zx_lk L a with
    | some (.inr (.inr r)) => K (i + 1) L (.inr (.inr r) :: S) X cu su
    | _ => none
  | .iload_n _ => match zx_lk L a with
    | some (.inl x) => K (i + 1) L (.inl x :: S) X cu su
    | _ => none
  | .iconst _ => K (i + 1) L (.inl d :: S) X cu su
  | .bipush _ => K (i + 1) L (.inl d :: S) X cu su
  | .sipush _ => K (i + 1) L (.inl d :: S) X cu su
  | .dup => match S with
    | .inr (.inr r) :: S => K (i + 1) L (.inr (.inr r) :: .inr (.inr r) :: S) X cu su
    | _ => none
  | .imul => match S with
    | .inl y :: .inl x :: S => if -2147483648 ≤ x * y ∧ x * y < 2147483648 then K (i + 1) L (.inl (x * y) :: S) X cu su else none
    | _ => none
  | .istore_n _ => match S with
    | .inl x :: S => K (i + 1) (zx_se L a (.inl x)) S X cu su
    | _ => none
  | .iinc _ _ => match zx_lk L a with
    | some (.inl x) => if -2147483648 ≤ x + d ∧ x + d < 2147483648 then K (i + 1) (zx_se L a (.inl (x + d))) S X cu su else none
    | _ => none
  | .if_icmp _ _ => match S with
    | .inl y :: .inl x :: S => if x < y then K (i + 1) L S X cu su else K a L S X cu su
    | _ => none
  | .goto _ => K a L S X cu su
  | .new _ => if cu + 1 ≤ zb_mc j ∧ su + (zb_df a).length ≤ zb_ms j then K (i + 1) L (.inr (.inr X.length) :: S) (X ++ [(0, a, zb_df a, [])]) (cu + 1) (su + (zb_df a).length) else none
  | .newarray _ => match S with
    | .inl n :: S => if (0 ≤ n ∧ n ≤ 100000) ∧ cu + 1 ≤ zb_mc j ∧ su + n.toNat ≤ zb_ms j then K (i + 1) L (.inr (.inr X.length) :: S) (X ++ [(b, n.toNat, [], [])]) (cu + 1) (su + n.toNat) else none
    | _ => none
  | .anewarray _ => match S with
    | .inl n :: S => if (0 ≤ n ∧ n ≤ 100000) ∧ cu + 1 ≤ zb_mc j ∧ su + n.toNat ≤ zb_ms j then K (i + 1) L (.inr (.inr X.length) :: S) (X ++ [(b, n.toNat, List.replicate n.toNat none, [])]) (cu + 1) (su + n.toNat) else none
    | _ => none
  | .getfield _ => match S with
    | .inr (.inr r) :: S => match X[r]? with
      | some (0, c, fs, _) => if c = a then (match fs[b]? with
        | some (some v) => K (i + 1) L (v :: S) X cu su
        | _ => none) else none
      | _ => none
    | _ => none
  | .putfield _ => match S with
    | v :: .inr (.inr r) :: S => match X[r]? with
      | some (0, c, fs, w) => if c = a ∧ b < fs.length ∧ zb_tok d v = true then K (i + 1) L S (X.set r (0, c, fs.set b (some v), w)) cu su else none
      | _ => none
    | _ => none
  | .iastore => match S with
    | .inl v :: .inl k :: .inr (.inr r) :: S => match X[r]? with
      | some (1, n, fs, w) => if 0 ≤ k ∧ k < (n : Int) then K (i + 1) L S (X.set r (1, n, fs, (k.toNat, v) :: w)) cu su else none
      | _ => none
    | _ => none
  | .sastore => match S with
    | .inl v :: .inl k :: .inr (.inr r) :: S => match X[r]? with
      | some (3, n, fs, w) => if (0 ≤ k ∧ k < (n : Int)) ∧ (v = 0 ∨ v = 1) then K (i + 1) L S (X.set r (3, n, fs, (k.toNat, v) :: w)) cu su else none
      | _ => none
    | _ => none
  | .aastore => match S with
    | .inr (.inr q) :: .inl k :: .inr (.inr r) :: S => match X[r]?, X[q]? with
      | some (t, n, fs, w), some (0, c, _, _) => if (t = 4 ∧ c = 3 ∨ t = 5 ∧ c = 6) ∧ (0 ≤ k ∧ k < (n : Int)) ∧ n = fs.length then K (i + 1) L S (X.set r (t, n, fs.set k.toNat (some (.inr (.inr q))), w)) cu su else none
      | _, _ => none
    | _ => none
  | .invokespecial _ => if a = 99 then (match S with
      | [.inr (.inr _)] => K (i + 1) L [] X cu su
      | _ => none) else zb_inv call j a b i L S X cu su K
  | .invokevirtual _ => zb_inv call j a b i L S X cu su K
  | .return_ => match S with
    | [] => some X
    | _ => none
  | _ => none
def zb_exec (call : Nat → List zV → zbX → Option zbX) (j : Nat) : Nat → Nat → zL → List zV → zbX → Nat → Nat → Option zbX
  | 0, _, _, _, _, _, _ => none
  | n + 1, i, L, S, X, cu, su => match (zb_cd j)[i]? with
    | some e => zb_act call j e i L S X cu su (zb_exec call j n)
    | none => none
def zb_call : Nat → Nat → List zV → zbX → Option zbX
  | 0, _, _, _ => none
  | n + 1, j, As, X => if j < 12 ∧ zx_sz As ≤ zb_ml j then zb_exec (zb_call n) j 1000 0 (zx_en As (zb_ml j)) [] X 0 0 else none
/-- what both constructors make -/
def zb_end : Option zbX := match zb_call 5 9 [.inr (.inr 0)] [(0, 9, zb_df 9, [])] with
  | some X => zb_call 5 10 [.inr (.inr X.length)] (X ++ [(0, 10, zb_df 10, [])])
  | none => none
theorem zb_end_len : (zb_end.map List.length) = some 108 := by decide +kernel
end
section
/-! THE BUILDER IS THE MACHINE'S -/
def zb_val (ad : Nat → Nat) : Option zV → Value
  | none => .null
  | some v => zc_v ad v
def zb_ref (ad : Nat → Nat) (l : List (Option zV)) (k : Nat) : Option Nat := match l[k]? with
  | some (some (.inr (.inr q))) => some (ad q)
  | _ => none
def zb_el (ad : Nat → Nat) (cA : Nat → ClassId) (c : zbC) : va_E := match c.1 with
  | 0 => .inr (c.2.1, c.2.2.1.map (zb_val ad))
  | 4 => .inl (cA 4, c.2.1, .inr (.inr (.inr (.inr (zb_ref ad c.2.2.1)))))
  | 5 => .inl (cA 5, c.2.1, .inr (.inr (.inr (.inr (zb_ref ad c.2.2.1)))))
  | t => .inl (cA t, c.2.1, .inl (fun k => Int32.ofInt (zb_fn c.2.2.2 k)))
def zb_ws (ad : Nat → Nat) (cA : Nat → ClassId) : Nat → zbX → va_W
  | _, [] => []
  | k, c :: X => (ad k, zb_el ad cA c) :: zb_ws ad cA (k + 1) X
def zb_ok (n : Nat) : zV → Prop
  | .inl x => zc_i x
  | .inr (.inl _) => False
  | .inr (.inr r) => r < n
def zb_okC (n : Nat) (c : zbC) : Prop := ∀ v, some v ∈ c.2.2.1 → zb_ok n v
def zb_wf (X : zbX) : Prop := ∀ c ∈ X, zb_okC X.length c
def zb_okS (n : Nat) (S : List zV) : Prop := ∀ v ∈ S, zb_ok n v
def zb_okL (n : Nat) (L : zL) : Prop := ∀ i v, zx_lk L i = some v → zb_ok n v
theorem zb_ok.mono {n m : Nat} (h : n ≤ m) {v : zV} (hv : zb_ok n v) : zb_ok m v := by
  rcases v with v | (v | v)
  · exact hv
  · exact hv
  · exact Nat.lt_of_lt_of_le hv h
theorem zb_v_ext {ad ad2 : Nat → Nat} {n : Nat} (he : ∀ r, r < n → ad2 r = ad r) {v : zV} (hv : zb_ok n v) : zc_v ad2 v = zc_v ad v := by
  rcases v with v | (v | v)
  · rfl
  · exact hv.elim
  · show Value.ref (ad2 v) = Value.ref (ad v)
    rw [he v hv]
theorem zb_el_ext {ad ad2 : Nat → Nat} {cA : Nat → ClassId} {n : Nat} (he : ∀ r, r < n → ad2 r = ad r) {c : zbC} (hc : zb_okC n c) : zb_el ad2 cA c = zb_el ad cA c := by
  have e1 : c.2.2.1.map (zb_val ad2) = c.2.2.1.map (zb_val ad) := by
    apply List.map_congr_left
    intro v hv
    cases v with
    | none => rfl
    | some v => exact zb_v_ext he (hc v hv)
  have e2 : zb_ref ad2 c.2.2.1 = zb_ref ad c.2.2.1 := by
    funext k
    unfold zb_ref
    split
    · rename_i q hq
      rw [he q (hc _ (List.mem_of_getElem? hq))]
    · rfl
  unfold zb_el
  rw [e1, e2]
theorem zb_ws_ext {ad ad2 : Nat → Nat} {cA : Nat → ClassId} {n : Nat} (he : ∀ r, r < n → ad2 r = ad r) : ∀ (X : zbX) (k : Nat), (∀ c ∈ X, zb_okC n c) → k + X.length ≤ n → zb_ws ad2 cA k X = zb_ws ad cA k X
  | [], _, _, _ => rfl
  | c :: X, k, hw, hk => by
    simp only [List.length_cons] at hk
    simp only [zb_ws]
    rw [he k (by omega), zb_el_ext he (hw c List.mem_cons_self), zb_ws_ext he X (k + 1) (fun c hc => hw c (List.mem_cons_of_mem _ hc)) (by omega)]
theorem zb_ws_len (ad : Nat → Nat) (cA : Nat → ClassId) : ∀ (X : zbX) (k : Nat), (zb_ws ad cA k X).length = X.length
  | [], _ => rfl
  | c :: X, k => by simp [zb_ws, zb_ws_len ad cA X (k + 1)]
theorem zb_ws_at {ad : Nat → Nat} {cA : Nat → ClassId} : ∀ (X : zbX) (k i : Nat) {c : zbC}, X[i]? = some c → (zb_ws ad cA k X)[i]? = some (ad (k + i), zb_el ad cA c)
  | [], _, _, _, h => by simp at h
  | c :: X, k, 0, d, h => by
    simp at h
    subst h
    rfl
  | c :: X, k, i + 1, d, h => by
    have := zb_ws_at (ad := ad) (cA := cA) X (k + 1) i (c := d) (by simpa using h)
    simp only [zb_ws, List.getElem?_cons_succ]
    rw [this, show k + 1 + i = k + (i + 1) by omega]
theorem zb_ws_app {ad : Nat → Nat} {cA : Nat → ClassId} (c : zbC) : ∀ (X : zbX) (k : Nat), zb_ws ad cA k (X ++ [c]) = zb_ws ad cA k X ++ [(ad (k + X.length), zb_el ad cA c)]
  | [], k => rfl
  | d :: X, k => by
    simp only [List.cons_append, zb_ws, List.length_cons]
    rw [zb_ws_app c X (k + 1), show k + 1 + X.length = k + (X.length + 1) by omega]
theorem zb_ws_set {ad : Nat → Nat} {cA : Nat → ClassId} (c : zbC) : ∀ (X : zbX) (k i : Nat), zb_ws ad cA k (X.set i c) = (zb_ws ad cA k X).set i (ad (k + i), zb_el ad cA c)
  | [], _, _ => rfl
  | d :: X, k, 0 => rfl
  | d :: X, k, i + 1 => by
    simp only [List.set_cons_succ, zb_ws]
    rw [zb_ws_set c X (k + 1) i, show k + 1 + i = k + (i + 1) by omega]
theorem zb_wf_app {X : zbX} {c : zbC} (h : zb_wf X) (hc : zb_okC (X.length + 1) c) : zb_wf (X ++ [c]) := by
  intro d hd
  rw [List.length_append]
  rcases List.mem_append.mp hd with hd | hd
  · exact fun v hv => (h d hd v hv).mono (by simp)
  · rw [List.mem_singleton.mp hd]
    exact hc
theorem zb_wf_set {X : zbX} {c : zbC} {i : Nat} (h : zb_wf X) (hc : zb_okC X.length c) : zb_wf (X.set i c) := by
  intro d hd
  rw [List.length_set]
  rcases List.mem_or_eq_of_mem_set hd with hd | hd
  · exact h d hd
  · rw [hd]
    exact hc
def zb_X (U : State) : Prop := (∀ w ∈ zc_nw, va_Nw w U) ∧ va_AO "PointMaker$Program" U ∧ va_AO "PointMaker$Sheet" U
theorem zb_X.same {u U : State} (hv : U.vm = u.vm) (h : zb_X u) : zb_X U := by
  have ha : u.vm.Alike U.vm := by rw [hv]; exact Vm.Alike.refl _
  refine ⟨fun w hw => va_Nw.same ?_ hv.symm (h.1 w hw), h.2.1.moved ha, h.2.2.moved ha⟩
  have := (List.mem_filter.mp hw).2
  cases w <;> first | rfl | (simp [zc_isN] at this)
theorem zb_X.warm {s U : State} (hW : s.WarmedH U.vm) (h : zb_X s) : zb_X U := by
  refine ⟨fun w hw => ?_, h.2.1.moved hW.alike, h.2.2.moved hW.alike⟩
  have hn := (List.mem_filter.mp hw).2
  have h0 := h.1 w hw
  cases w <;> first | exact va_Nw.warmM hW h0 | (simp [zc_isN] at hn)
def zb_pre (D : va_G) (ad : Nat → Nat) (cA : Nat → ClassId) (A : Nat → Prop) (X : zbX) (U : State) : Prop :=
  va_P D vwCl (zb_ws ad cA 0 X) U.heap ∧ va_K D vwCl (zc_tys cA) U ∧ va_D A (zb_ws ad cA 0 X) ∧ zb_X U ∧ ∀ q, U.heap.size ≤ q → A q
def zb_Qc (n0 : Nat) (D : va_G) (ad : Nat → Nat) (cA : Nat → ClassId) (A : Nat → Prop) (X : zbX) : Array Value → State → Outcome → State → Prop := fun _ st oc t =>
  (oc = .returned none ∧ ∃ ad2 : Nat → Nat, (∀ k, k < n0 → ad2 k = ad k) ∧ zb_wf X ∧ n0 ≤ X.length ∧ va_P D vwCl (zb_ws ad2 cA 0 X) t.heap ∧ va_K D vwCl (zc_tys cA) t ∧ va_D A (zb_ws ad2 cA 0 X)) ∧ va_F A st t
def zb_wsj (j : Nat) : List Cond := .code (zb_y j) (zb_by j) (zb_ml j) none :: zc_tb
/-- a constructor's contract -/
def zB (j : Nat) (As : List zV) (X X2 : zbX) : Prop := zb_okS X.length As → zb_wf X → ∀ (l : Launch) (D : va_G) (ad : Nat → Nat) (cA : Nat → ClassId) (A : Nat → Prop),
  Met l (zb_y j) (zb_wsj j) (zb_rm j) (va_Pc (As.map (zc_v ad)) (zb_pre D ad cA A X)) (zb_Qc X.length D ad cA A X2) (zb_mc j) (zb_ms j) A
theorem zb_blind {av : List Value} {D : va_G} {ad : Nat → Nat} {cA : Nat → ClassId} {A : Nat → Prop} {X : zbX} : FrameBlind (va_Pc av (zb_pre D ad cA A X)) := by
  intro a U g mk q
  obtain ⟨q0, q1, q2, q3, q4, q5⟩ := q
  exact ⟨q0, q1, va_K.moved (u := U) (U := U.calling g mk a) (Vm.Alike.refl U.vm) q2, q3, zb_X.same (u := U) (U := U.calling g mk a) rfl q4, q5⟩
/-! what a program checks of a row -/
def zq_d (j pc : Nat) (ins : Instr) (len : Nat) : Bool := decide (decode (zb_by j) pc = .ok (ins, len))
def zq_s (j i pc : Nat) (ins : Instr) (len : Nat) : Bool := zq_d j pc ins len && decide (zb_pc j (i + 1) = pc + len)
def zq_t (j pc : Nat) (o : Int) (a : Nat) : Bool := decide ((pc : Int) + o = (zb_pc j a : Int))
def zq_isR (ty : FieldType) : Bool := match ty with
  | .object _ => true
  | .array _ => true
  | _ => false
def zq_f (j k a b : Nat) (d : Int) (ts : List (Int × Nat)) (put : Bool) : Bool := match ts, vwCl[a]? with
  | [(q, _)], some (_, T, N) => decide (b < N) && zk_w q.toNat (.fieldLink (zb_own j) k (T b).1 (T b).2.1 (T b).2.2.1) && (!put || ((!(T b).2.2.2 || (decide ((zb_y j).name = "<init>") && decide ((T b).1 = zb_own j))) && (match parseFieldDescriptor (T b).2.2.1 with
    | some ty => (decide (d = 0) && decide (ty = .int)) || (decide (d = 1) && decide (ty = .boolean)) || (decide (d = 2) && zq_isR ty)
    | none => false)))
  | _, _ => false
def zq_c (j a n : Nat) : Bool :=
  zk_w (zb_mt a).2.2.2.2.2.2.2.1 (.code (zb_y a) (zb_by a) (zb_ml a) none) && zk_w (zb_mt a).2.2.2.2.2.2.2.2.1 (.instanceMethod (zb_y a)) && zk_w (zb_mt a).2.2.2.2.2.2.2.2.2.2 (.initialized (zb_own a)) &&
  decide ((zb_rm a).frames + 1 ≤ (zb_rm j).frames) && decide (8 + (zb_ml a + 11) + (zb_rm a).locals ≤ (zb_rm j).locals) && decide ((parseMethodDescriptor (zb_y a).desc).map (fun d => d.parameters.length) = some n) && decide (zb_own a ≠ "java/lang/invoke/MethodHandle") && decide (zb_own a ≠ "java/lang/invoke/VarHandle")
def zq_l (j k a : Nat) (ts : List (Int × Nat)) : Bool := match ts with
  | [(q, 0)] => zk_w q.toNat (.methodLink (zb_own j) k (zb_y a))
  | [(q, 1)] => zk_nw q.toNat (.methodLinkNest (zb_own j) k (zb_y a) "PointMaker")
  | _ => false
def zq_e (j i : Nat) (e : zE) : Bool := match e with
  | (pc, ins, _, a, b, d, ts) => decide (zb_pc j i = pc) && match ins with
  | .iload_n n => zq_s j i pc (.iload_n n) 1 && decide ((n : Nat) = a)
  | .aload_n n => zq_s j i pc (.aload_n n) 1 && decide ((n : Nat) = a)
  | .iconst n => zq_s j i pc (.iconst n) 1 && decide (Int32.ofInt n = Int32.ofInt d) && zk_ri d
  | .bipush n => zq_s j i pc (.bipush n) 2 && decide ((Int8.ofInt n).toInt32 = Int32.ofInt d) && zk_ri d
  | .sipush n => zq_s j i pc (.sipush n) 3 && decide ((Int16.ofInt n).toInt32 = Int32.ofInt d) && zk_ri d
  | .dup => zq_s j i pc .dup 1
  | .imul => zq_s j i pc .imul 1
  | .istore_n n => zq_s j i pc (.istore_n n) 1 && decide ((n : Nat) = a) && decide (a < zb_ml j)
  | .iinc n v => zq_s j i pc (.iinc n v) 3 && decide (n = a) && decide (v = d) && decide (a < zb_ml j)
  | .if_icmp q n => zq_s j i pc (.if_icmp .ge n) 3 && zq_t j pc n a && (match q with
    | .ge => true
    | _ => false)
  | .goto n => zq_d j pc (.goto n) 3 && zq_t j pc n a
  | .new n => zq_s j i pc (.new n) 3 && (match ts, vwCl[a]? with
    | [(q1, _), (q2, _), (q3, _)], some (C, _, N) => zk_w q1.toNat (.classLink (zb_own j) n C) && zk_w q2.toNat (.instantiable C N) && zk_w q3.toNat (.initialized C) && decide ((zb_df a).length = N)
    | _, _ => false)
  | .newarray t => zq_s j i pc (.newarray t) 2 && (match ts, t with
    | [(q, _)], .int => zk_w q.toNat (.arrayClass .int) && decide (b = 1)
    | [(q, _)], .byte => zk_w q.toNat (.arrayClass .byte) && decide (b = 2)
    | [(q, _)], .boolean => zk_w q.toNat (.arrayClass .boolean) && decide (b = 3)
    | _, _ => false)
  | .anewarray n => zq_s j i pc (.anewarray n) 3 && (match ts with
    | [(q, _)] => (zk_w q.toNat (.classLink (zb_own j) n "PointMaker$Program") && decide (b = 4)) || (zk_w q.toNat (.classLink (zb_own j) n "PointMaker$Sheet") && decide (b = 5))
    | _ => false)
  | .getfield n => zq_s j i pc (.getfield n) 3 && zq_f j n a b d ts false
  | .putfield n => zq_s j i pc (.putfield n) 3 && zq_f j n a b d ts true
  | .iastore => zq_s j i pc .iastore 1
  | .sastore => zq_s j i pc .bastore 1
  | .aastore => zq_s j i pc .aastore 1
  | .invokespecial n => zq_s j i pc (.invokespecial n) 3 && (if a = 99 then (match ts with
    | [(q, _)] => zk_w q.toNat (.methodLink (zb_own j) n Lib.objectInit)
    | _ => false) && decide (1 ≤ (zb_rm j).frames) && decide (20 ≤ (zb_rm j).locals) else zq_c j a (b - 1) && zq_l j n a ts && decide (0 < b) && decide ((zb_y a).name = "<init>"))
  | .invokevirtual n => zq_s j i pc (.invokevirtual n) 3 && zq_c j a (b - 1) && zq_l j n a ts && decide (0 < b) && decide (a = 11) && decide (b = 1) && zk_w (zb_mt a).2.2.2.2.2.2.2.2.2.1 (.selects (zb_own a) (zb_y a) (zb_y a))
  | .return_ => zq_d j pc .return_ 1
  | _ => true
theorem zb_dv : ∀ a, a < 11 → ∀ q, vwCl[a]? = some q → ∃ ty : Nat → FieldType, (∀ k, k < q.2.2 → parseFieldDescriptor (q.2.1 k).2.2.1 = some (ty k)) ∧ ∀ ad : Nat → Nat, ∀ k, k < q.2.2 → defaultValue (ty k) = vp_V ((zb_df a).map (zb_val ad)) k := by
  intro a ha q hq
  have h2 : ∀ (c : Nat) (ty : Nat → FieldType) (N : Nat), (∀ k, k < N → defaultValue (ty k) = vp_V ((zb_df c).map (fun v => match v with | none => Value.null | some _ => Value.int 0)) k) → (∀ o ∈ zb_df c, o = none ∨ o = some (.inl 0)) → ∀ ad : Nat → Nat, ∀ k, k < N → defaultValue (ty k) = vp_V ((zb_df c).map (zb_val ad)) k := by
    intro c ty N h hv ad k hk
    rw [h k hk]
    congr 1
    apply List.map_congr_left
    intro v hv2
    rcases hv v hv2 with rfl | rfl
    · rfl
    · rfl
  match a, hq with
  | 0, hq => cases hq; exact ⟨tyX0, tyX0_ok, h2 0 tyX0 2 (by decide) (by decide)⟩
  | 1, hq => cases hq; exact ⟨tyX1, tyX1_ok, h2 1 tyX1 2 (by decide) (by decide)⟩
  | 2, hq => cases hq; exact ⟨tyX2, tyX2_ok, h2 2 tyX2 8 (by decide) (by decide)⟩
  | 3, hq => cases hq; exact ⟨tyX3, tyX3_ok, h2 3 tyX3 3 (by decide) (by decide)⟩
  | 4, hq => cases hq; exact ⟨tyX4, tyX4_ok, h2 4 tyX4 8 (by decide) (by decide)⟩
  | 5, hq => cases hq; exact ⟨tyX5, tyX5_ok, h2 5 tyX5 6 (by decide) (by decide)⟩
  | 6, hq => cases hq; exact ⟨tyX6, tyX6_ok, h2 6 tyX6 3 (by decide) (by decide)⟩
  | 7, hq => cases hq; exact ⟨tyX7, tyX7_ok, h2 7 tyX7 2 (by decide) (by decide)⟩
  | 8, hq => cases hq; exact ⟨tyX8, tyX8_ok, h2 8 tyX8 9 (by decide) (by decide)⟩
  | 9, hq => cases hq; exact ⟨tyX9, tyX9_ok, h2 9 tyX9 17 (by decide) (by decide)⟩
  | 10, hq => cases hq; exact ⟨tyX10, tyX10_ok, h2 10 tyX10 46 (by decide +kernel) (by decide +kernel)⟩
  | k + 11, hq => omega
end
section
/-! A STEP OF THE BUILDER is one of the machine -/
theorem zb_tok_inv {d : Int} {v : zV} (h : zb_tok d v = true) : (∃ x, v = .inl x ∧ (d = 0 ∨ (d = 1 ∧ (x = 0 ∨ x = 1)))) ∨ (∃ q, v = .inr (.inr q) ∧ d = 2) := by
  rcases v with v | (v | v)
  · simp only [zb_tok, Bool.or_eq_true, Bool.and_eq_true, decide_eq_true_eq] at h
    exact Or.inl ⟨v, rfl, h⟩
  · cases h
  · simp only [zb_tok, decide_eq_true_eq] at h
    exact Or.inr ⟨v, rfl, h⟩
theorem zb_el0 {ad : Nat → Nat} {cA : Nat → ClassId} {a : Nat} {fs : List (Option zV)} {w : List (Nat × Int)} : zb_el ad cA (0, a, fs, w) = .inr (a, fs.map (zb_val ad)) := rfl
theorem zb_el1 {ad : Nat → Nat} {cA : Nat → ClassId} {n : Nat} {fs : List (Option zV)} {w : List (Nat × Int)} : zb_el ad cA (1, n, fs, w) = .inl (cA 1, n, .inl (fun k => Int32.ofInt (zb_fn w k))) := rfl
theorem zb_el3 {ad : Nat → Nat} {cA : Nat → ClassId} {n : Nat} {fs : List (Option zV)} {w : List (Nat × Int)} : zb_el ad cA (3, n, fs, w) = .inl (cA 3, n, .inl (fun k => Int32.ofInt (zb_fn w k))) := rfl
theorem zb_upd {w : List (Nat × Int)} {k : Nat} {v : Int} : upd (fun j : Nat => Int32.ofInt (zb_fn w j)) k (Int32.ofInt v) = fun j : Nat => Int32.ofInt (zb_fn ((k, v) :: w) j) := by
  funext j
  unfold upd
  simp only [zb_fn]
  by_cases c : j = k
  · rw [if_pos c, if_pos c]
  · rw [if_neg c, if_neg c]
theorem zb_refs {ad : Nat → Nat} {fs : List (Option zV)} {k q : Nat} (hk : k < fs.length) : va_up (zb_ref ad fs) k (some (ad q)) = zb_ref ad (fs.set k (some (.inr (.inr q)))) := by
  funext j
  unfold va_up zb_ref
  by_cases c : j = k
  · subst c
    rw [if_pos rfl, List.getElem?_set_self hk]
  · rw [if_neg c, List.getElem?_set_ne (fun z => c z.symm)]
theorem zq_f_inv {j k a b : Nat} {d : Int} {ts : List (Int × Nat)} {put : Bool} (h : zq_f j k a b d ts put = true) : ∃ (q : Int) (C : String) (T : u_T) (N : Nat), vwCl[a]? = some (C, T, N) ∧ b < N ∧ zk_w q.toNat (.fieldLink (zb_own j) k (T b).1 (T b).2.1 (T b).2.2.1) = true ∧ (put = true → ((T b).2.2.2 = false ∨ ((zb_y j).name = "<init>" ∧ (T b).1 = zb_own j)) ∧ ∃ ty, parseFieldDescriptor (T b).2.2.1 = some ty ∧ ((d = 0 ∧ ty = .int) ∨ (d = 1 ∧ ty = .boolean) ∨ (d = 2 ∧ zq_isR ty = true))) := by
  unfold zq_f at h
  split at h
  · rename_i q _ C T N hq
    simp only [Bool.and_eq_true, decide_eq_true_eq, Bool.or_eq_true, Bool.not_eq_true'] at h
    obtain ⟨⟨h2, h3⟩, h4⟩ := h
    refine ⟨q, C, T, N, hq, h2, h3, fun hp => ?_⟩
    rcases h4 with h4 | ⟨h4, h5⟩
    · rw [hp] at h4; cases h4
    · refine ⟨h4, ?_⟩
      split at h5
      · rename_i ty hty
        refine ⟨ty, hty, ?_⟩
        simp only [Bool.or_eq_true, Bool.and_eq_true, decide_eq_true_eq] at h5
        rcases h5 with (h5 | h5) | h5
        · exact Or.inl h5
        · exact Or.inr (Or.inl h5)
        · exact Or.inr (Or.inr h5)
      · cases h5
  · cases h
theorem zq_l_inv {j k a : Nat} {ts : List (Int × Nat)} (hl : zq_l j k a ts = true) : Cond.methodLink (zb_own j) k (zb_y a) ∈ zc_tb ∨ Cond.methodLinkNest (zb_own j) k (zb_y a) "PointMaker" ∈ zc_nw := by
  unfold zq_l at hl
  split at hl
  · exact Or.inl (zk_w_in hl)
  · exact Or.inr (zk_nw_in hl)
  · cases hl
theorem zb_sameA {s : State} {D : va_G} {cA : Nat → ClassId} {ca : ClassId} {ty : FieldType} {t : Nat} (hK : va_K D vwCl (zc_tys cA) s) (ht : (zc_tys cA)[t]? = some (cA t, ty)) (h : va_RA s ca ty) : ca = cA t := by
  have h2 := (hK.2 t _ ht).2
  cases ty with
  | object C =>
    obtain ⟨_, _, _, _, _, h1⟩ := h
    obtain ⟨_, _, _, _, _, h2⟩ := h2
    exact Option.some.inj (h1.symm.trans h2)
  | _ => exact Option.some.inj (Eq.trans (Eq.symm h) h2)
section ZB
variable {j n0 : Nat} {p : Program} {l : Launch} {e : Env} {s : State} {m : MethodId} {args : Array Value} {below : List Frame} {meth : Method} {c : Code} {D : va_G} {ad0 : Nat → Nat} {cA : Nat → ClassId} {A : Nat → Prop} {i : Nat} {L : zL} {S : List zV} {X Y : zbX} {cu su : Nat} {K : Nat → zL → List zV → zbX → Nat → Nat → Option zbX} {call : Nat → List zV → zbX → Option zbX}
def zb_C (j : Nat) (p : Program) (s : State) (m : MethodId) (args : Array Value) (meth : Method) (c : Code) (D : va_G) (cA : Nat → ClassId) (A : Nat → Prop) : Prop :=
  p.tables.exec = Jvm.exec ∧ c.code = zb_by j ∧ meth.sig.returnType = none ∧ c.maxLocals = zb_ml j ∧ s.vm.findClass (zb_own j) = some m.cls ∧ (∀ w ∈ zc_tb, w.before args s = true) ∧ meth.locks = false ∧ va_K D vwCl (zc_tys cA) s ∧ zb_X s ∧ (∀ q, s.heap.size ≤ q → A q) ∧ meth.name = (zb_y j).name
def zb_I (j n0 : Nat) (ad0 : Nat → Nat) (s : State) (D : va_G) (ad : Nat → Nat) (cA : Nat → ClassId) (A : Nat → Prop) (L : zL) (S : List zV) (X : zbX) (H : Heap) (locs : List Loc) (ls : Array Slot) : Prop :=
  (va_P D vwCl (zb_ws ad cA 0 X) H ∧ va_D A (zb_ws ad cA 0 X) ∧ va_S A s.heap H locs) ∧ (zc_L ad L (zb_ml j) ls ∧ zb_okL X.length L) ∧ zb_okS X.length S ∧ zb_wf X ∧ n0 ≤ X.length ∧ ∀ k, k < n0 → ad k = ad0 k
def zb_W (j n0 : Nat) (ad0 : Nat → Nat) (p : Program) (l : Launch) (e : Env) (s : State) (m : MethodId) (args : Array Value) (below : List Frame) (meth : Method) (c : Code) (D : va_G) (cA : Nat → ClassId) (A : Nat → Prop) (Y : zbX) (i : Nat) (L : zL) (S : List zV) (X : zbX) (cu su : Nat) : Prop :=
  cu ≤ zb_mc j → su ≤ zb_ms j → ∀ (ad : Nat → Nat) (H : Heap) (locs : List Loc) (ls : Array Slot), zb_I j n0 ad0 s D ad cA A L S X H locs ls → W p l e (zb_rm j) s m args below meth c H locs cu su (MQ below (zb_Qc n0 D ad0 cA A Y) args s (zb_mc j) (zb_ms j) A) (F0 m (zb_pc j i) ls (S.map (zc_v ad)))
theorem zb_C.word (C : zb_C j p s m args meth c D cA A) {k : Nat} {w : Cond} (h : zk_w k w = true) : w.before args s = true := C.2.2.2.2.2.1 w (zk_w_in h)
theorem zb_next {i2 pc2 cu2 su2 : Nat} {L2 : zL} {S2 : List zV} {X2 : zbX} {ad : Nat → Nat} {H : Heap} {locs : List Loc} {ls : Array Slot} (hK : ∀ i2 L2 S2 X2 cu2 su2, K i2 L2 S2 X2 cu2 su2 = some Y → zb_W j n0 ad0 p l e s m args below meth c D cA A Y i2 L2 S2 X2 cu2 su2) (hn : zb_pc j i2 = pc2) (hk : K i2 L2 S2 X2 cu2 su2 = some Y) (hc : cu2 ≤ zb_mc j) (hs : su2 ≤ zb_ms j) (I : zb_I j n0 ad0 s D ad cA A L2 S2 X2 H locs ls) : W p l e (zb_rm j) s m args below meth c H locs cu2 su2 (MQ below (zb_Qc n0 D ad0 cA A Y) args s (zb_mc j) (zb_ms j) A) (F0 m pc2 ls (S2.map (zc_v ad))) := by
  have := hK _ _ _ _ _ _ hk hc hs ad H locs ls I
  rw [hn] at this
  exact this
/-- one cell more -/
theorem zb_grow {ad : Nat → Nat} {H H1 : Heap} {locs : List Loc} {ls : Array Slot} {q : Nat} {cc : zbC} (I : zb_I j n0 ad0 s D ad cA A L S X H locs ls) (hc : zb_okC X.length cc) (hP : va_P D vwCl (zb_ws ad cA 0 X ++ [(q, zb_el ad cA cc)]) H1) (hD : va_D A (zb_ws ad cA 0 X ++ [(q, zb_el ad cA cc)])) (hS : va_S A s.heap H1 locs) : zb_I j n0 ad0 s D (va_up ad X.length q) cA A L (.inr (.inr X.length) :: S) (X ++ [cc]) H1 locs ls ∧ S.map (zc_v (va_up ad X.length q)) = S.map (zc_v ad) ∧ zc_v (va_up ad X.length q) (.inr (.inr X.length)) = .ref q := by
  have he : ∀ r, r < X.length → va_up ad X.length q r = ad r := fun r hr => va_up_ne _ _ (by omega)
  have e1 : zb_ws (va_up ad X.length q) cA 0 (X ++ [cc]) = zb_ws ad cA 0 X ++ [(q, zb_el ad cA cc)] := by
    rw [zb_ws_app, zb_ws_ext he X 0 I.2.2.2.1 (by omega), zb_el_ext he hc, Nat.zero_add, va_up_self]
  have eS : ∀ v ∈ S, zc_v (va_up ad X.length q) v = zc_v ad v := fun v hv => zb_v_ext he (I.2.2.1 v hv)
  refine ⟨⟨⟨by rw [e1]; exact hP, by rw [e1]; exact hD, hS⟩, ⟨?_, ?_⟩, ?_, zb_wf_app I.2.2.2.1 (fun v hv => (hc v hv).mono (by omega)), ?_, ?_⟩, List.map_congr_left eS, ?_⟩
  · obtain ⟨lst, g1, g2⟩ := I.2.1.1
    exact ⟨lst, g1, fun i v hv => by rw [zb_v_ext he (I.2.1.2 i v hv)]; exact g2 i v hv⟩
  · intro i v hv
    exact (I.2.1.2 i v hv).mono (by simp)
  · refine List.forall_mem_cons.mpr ⟨?_, fun v hv => (I.2.2.1 v hv).mono (by simp)⟩
    show X.length < (X ++ [cc]).length
    simp
  · rw [List.length_append]
    exact Nat.le_trans I.2.2.2.2.1 (by omega)
  · intro k hk
    rw [he k (Nat.lt_of_lt_of_le hk I.2.2.2.2.1)]
    exact I.2.2.2.2.2 k hk
  · show Value.ref (va_up ad X.length q X.length) = _
    rw [va_up_self]
theorem zb_I.rest {ad : Nat → Nat} {H : Heap} {locs : List Loc} {ls : Array Slot} {v : zV} (I : zb_I j n0 ad0 s D ad cA A L (v :: S) X H locs ls) : zb_I j n0 ad0 s D ad cA A L S X H locs ls := ⟨I.1, I.2.1, (List.forall_mem_cons.mp I.2.2.1).2, I.2.2.2⟩
theorem zb_I.top {ad : Nat → Nat} {H : Heap} {locs : List Loc} {ls : Array Slot} {v : zV} (I : zb_I j n0 ad0 s D ad cA A L (v :: S) X H locs ls) : zb_ok X.length v := (List.forall_mem_cons.mp I.2.2.1).1
theorem zb_I.push {ad : Nat → Nat} {H : Heap} {locs : List Loc} {ls : Array Slot} {v : zV} (I : zb_I j n0 ad0 s D ad cA A L S X H locs ls) (hv : zb_ok X.length v) : zb_I j n0 ad0 s D ad cA A L (v :: S) X H locs ls := ⟨I.1, I.2.1, List.forall_mem_cons.mpr ⟨hv, I.2.2.1⟩, I.2.2.2⟩
theorem zb_setI {ad : Nat → Nat} {H H1 : Heap} {locs locs1 : List Loc} {ls : Array Slot} {r : Nat} {cc : zbC} (I : zb_I j n0 ad0 s D ad cA A L S X H locs ls) (hc : zb_okC X.length cc) (hP : va_P D vwCl ((zb_ws ad cA 0 X).set r (ad r, zb_el ad cA cc)) H1) (hD : va_D A ((zb_ws ad cA 0 X).set r (ad r, zb_el ad cA cc))) (hS : va_S A s.heap H1 locs1) : zb_I j n0 ad0 s D ad cA A L S (X.set r cc) H1 locs1 ls := by
  have e1 : zb_ws ad cA 0 (X.set r cc) = (zb_ws ad cA 0 X).set r (ad r, zb_el ad cA cc) := by rw [zb_ws_set, Nat.zero_add]
  have e2 : (X.set r cc).length = X.length := List.length_set
  refine ⟨⟨by rw [e1]; exact hP, by rw [e1]; exact hD, hS⟩, ⟨I.2.1.1, by rw [e2]; exact I.2.1.2⟩, by rw [e2]; exact I.2.2.1, zb_wf_set I.2.2.2.1 hc, by rw [e2]; exact I.2.2.2.2.1, I.2.2.2.2.2⟩
theorem zb_se_ok {n : Nat} {L : zL} (h : zb_okL n L) {a : Nat} {x : zV} (hx : zb_ok n x) : zb_okL n (zx_se L a x) := by
  intro i v hv
  rcases zx_lk_se L a i x v hv with ⟨rfl, rfl⟩ | ⟨h1, h2, h3⟩
  · exact hx
  · exact h i v h2
/-- behind a call -/
theorem zb_back {a pc : Nat} {ad : Nat → Nat} {As S2 : List zV} {X2 : zbX} {st0 : List Value} {aa : Array Value} {H : Heap} {locs : List Loc} {ls : Array Slot} (hn : zb_pc j (i + 1) = pc + 3) (hK : ∀ i2 L2 S2 X2 cu2 su2, K i2 L2 S2 X2 cu2 su2 = some Y → zb_W j n0 ad0 p l e s m args below meth c D cA A Y i2 L2 S2 X2 cu2 su2) (hk : K (i + 1) L S2 X2 (cu + zb_mc a) (su + zb_ms a) = some Y) (hc : cu + zb_mc a ≤ zb_mc j) (hs : su + zb_ms a ≤ zb_ms j) (I : zb_I j n0 ad0 s D ad cA A L S2 X H locs ls)
    (hr : va_Run p l e (zb_rm j) s m args below meth c H locs cu su (zb_mc a) (zb_ms a) (F0 m pc ls st0) (S2.map (zc_v ad)) (zb_Qc X.length D ad cA A X2 aa) A) : W p l e (zb_rm j) s m args below meth c H locs cu su (MQ below (zb_Qc n0 D ad0 cA A Y) args s (zb_mc j) (zb_ms j) A) (F0 m pc ls st0) := by
  intro T hT XX
  obtain ⟨v, st₀, t, T', Lc, h0, X', hL, e1, e2, ⟨⟨hv, ad2, hp1, hp2, hp3, hp4, hp5, hp6⟩, hz, hkk⟩, st⟩ := hr T hT XX
  cases hv
  rw [h0] at hz hkk
  have hS := I.1.2.2
  have hS1 : va_S A s.heap T'.heap (locs ++ Lc) := ⟨Nat.le_trans hS.1 (by rw [e1]; exact hz), fun q h1 h2 => by rw [e1, hkk q (Nat.lt_of_lt_of_le h1 hS.1) h2]; exact hS.2.1 q h1 h2, fun q hq => by
      rcases List.mem_append.mp hq with h | h
      · exact hS.2.2 q h
      · exact hL q h⟩
  have eS : S2.map (zc_v ad2) = S2.map (zc_v ad) := List.map_congr_left (fun v hv => zb_v_ext hp1 (I.2.2.1 v hv))
  have I2 : zb_I j n0 ad0 s D ad2 cA A L S2 X2 T'.heap (locs ++ Lc) ls := by
    refine ⟨⟨by rw [e1]; exact hp4, hp6, hS1⟩, ⟨?_, fun i v hv => (I.2.1.2 i v hv).mono hp3⟩, fun v hv => (I.2.2.1 v hv).mono hp3, hp2, Nat.le_trans I.2.2.2.2.1 hp3, fun k hk => by rw [hp1 k (Nat.lt_of_lt_of_le hk I.2.2.2.2.1)]; exact I.2.2.2.2.2 k hk⟩
    obtain ⟨lst, g1, g2⟩ := I.2.1.1
    exact ⟨lst, g1, fun i v hv => by rw [zb_v_ext hp1 (I.2.1.2 i v hv)]; exact g2 i v hv⟩
  have k2 := zb_next hK hn hk hc hs I2
  rw [eS] at k2
  obtain ⟨t2, a1, b1⟩ := k2 T' rfl X'
  exact ⟨t2, st t2 a1, b1⟩
end ZB
end
section
/-! the builder's steps, one by one -/
theorem zb_cls : ∀ a, a < 12 → (vwCl[zb_cN a]?).map (fun q => q.1) = some (zb_own a) := by decide +kernel
section ZC
variable {j n0 : Nat} {p : Program} {l : Launch} {e : Env} {s : State} {m : MethodId} {args : Array Value} {below : List Frame} {meth : Method} {c : Code} {D : va_G} {ad0 : Nat → Nat} {cA : Nat → ClassId} {A : Nat → Prop} {i : Nat} {L : zL} {S : List zV} {X Y : zbX} {cu su : Nat} {K : Nat → zL → List zV → zbX → Nat → Nat → Option zbX} {call : Nat → List zV → zbX → Option zbX}
theorem zb_inv_inv {a b : Nat} (hA : zb_inv call j a b i L S X cu su K = some Y) : ∃ r As S2 fs w X2, S = As.reverse ++ .inr (.inr r) :: S2 ∧ As.length + 1 = b ∧ S2.length ≤ 3 ∧ X[r]? = some (0, zb_cN a, fs, w) ∧ cu + zb_mc a ≤ zb_mc j ∧ su + zb_ms a ≤ zb_ms j ∧ call a (.inr (.inr r) :: As) X = some X2 ∧ K (i + 1) L S2 X2 (cu + zb_mc a) (su + zb_ms a) = some Y := by
  unfold zb_inv at hA
  split at hA
  case h_2 => cases hA
  rename_i r As hAs
  split at hA
  case h_2 => cases hA
  rename_i cc fs w hX
  split at hA
  case isFalse => cases hA
  rename_i hc
  obtain ⟨q0, q1, q2, q3, q4⟩ := hc
  split at hA
  case h_2 => cases hA
  rename_i X2 hX2
  have e1 : S.take b = (.inr (.inr r) :: As).reverse := by rw [← hAs, List.reverse_reverse]
  have e2 : As.length + 1 = b := by
    have := congrArg List.length e1
    rw [List.length_take, List.length_reverse, List.length_cons] at this
    omega
  refine ⟨r, As, S.drop b, fs, w, X2, ?_, e2, by rw [List.length_drop]; omega, by rw [hX, q0], q3, q4, hX2, hA⟩
  have e3 := List.take_append_drop b S
  rw [e1] at e3
  have e4 : (.inr (.inr r) :: As).reverse ++ S.drop b = As.reverse ++ .inr (.inr r) :: S.drop b := by simp
  exact e3.symm.trans e4
theorem zd_inv {n pc a b : Nat} {ts : List (Int × Nat)} (st : Bool) (C : zb_C j p s m args meth c D cA A) (hcall : ∀ a As X Y, call a As X = some Y → zB a As X Y) (hd : decode (zb_by j) pc = .ok (if st then .invokespecial n else .invokevirtual n, 3)) (hn : zb_pc j (i + 1) = pc + 3) (hcc : zq_c j a (b - 1) = true) (hl : zq_l j n a ts = true) (hname : st = true → (zb_y a).name = "<init>") (hsel : st = false → Cond.selects (zb_own a) (zb_y a) (zb_y a) ∈ zc_tb ∧ a = 11)
    (hA : zb_inv call j a b i L S X cu su K = some Y) (hK : ∀ i2 L2 S2 X2 cu2 su2, K i2 L2 S2 X2 cu2 su2 = some Y → zb_W j n0 ad0 p l e s m args below meth c D cA A Y i2 L2 S2 X2 cu2 su2) {ad : Nat → Nat} {H : Heap} {locs : List Loc} {ls : Array Slot} (I : zb_I j n0 ad0 s D ad cA A L S X H locs ls) : W p l e (zb_rm j) s m args below meth c H locs cu su (MQ below (zb_Qc n0 D ad0 cA A Y) args s (zb_mc j) (zb_ms j) A) (F0 m pc ls (S.map (zc_v ad))) := by
  obtain ⟨r, As, S2, fs, w, X2, rfl, e2, q2, hX, q3, q4, hX2, hk⟩ := zb_inv_inv hA
  simp only [zq_c, Bool.and_eq_true, decide_eq_true_eq] at hcc
  obtain ⟨⟨⟨⟨⟨⟨⟨k1, k2⟩, k4⟩, k5⟩, k6⟩, k7⟩, k8⟩, k9⟩ := hcc
  have hws : ∀ w ∈ zb_wsj a, w ∈ zc_tb := by
    intro w hw
    rcases List.mem_cons.mp hw with rfl | hw
    · exact zk_w_in k1
    · exact hw
  have hokA : zb_okS X.length (.inr (.inr r) :: As) := by
    intro v hv
    refine I.2.2.1 v ?_
    rcases List.mem_cons.mp hv with rfl | hv
    · exact List.mem_append_right _ List.mem_cons_self
    · exact List.mem_append_left _ (List.mem_reverse.mpr hv)
  have hok2 : zb_okS X.length S2 := fun v hv => I.2.2.1 v (List.mem_append_right _ (List.mem_cons_of_mem _ hv))
  have hM := hcall a _ X X2 hX2 hokA I.2.2.2.1 l D ad cA A
  have hcat := zc_cats ad S2
  have htb := C.2.2.2.2.2.1
  have hfit : cu + zb_mc a ≤ (zb_rm j).cells ∧ su + zb_ms a ≤ (zb_rm j).slots := ⟨q3, q4⟩
  have hpre : ∀ U : State, U.heap = H → s.WarmedH U.vm → zb_pre D ad cA A X U := fun U hU hW => by
    refine ⟨by rw [hU]; exact I.1.1, va_K.moved hW.alike C.2.2.2.2.2.2.2.1, I.1.2.1, C.2.2.2.2.2.2.2.2.1.warm hW, fun q hq => C.2.2.2.2.2.2.2.2.2.1 q ?_⟩
    rw [hU] at hq
    exact Nat.le_trans I.1.2.2.1 hq
  have hst : (As.reverse ++ .inr (.inr r) :: S2).map (zc_v ad) = (As.map (zc_v ad)).reverse ++ Value.ref (ad r) :: S2.map (zc_v ad) := by
    simp [zc_v]
  have hl2 : As.length = b - 1 := by omega
  rw [hst]
  refine zb_back (a := a) (As := As) (aa := (Value.ref (ad r) :: As.map (zc_v ad)).toArray) hn hK hk q3 q4 ⟨I.1, I.2.1, hok2, I.2.2.2⟩ ?_
  cases st with
  | true =>
    have hp : PreS s H (va_Pc ((Sum.inr (Sum.inr r) :: As).map (zc_v ad)) (zb_pre D ad cA A X)) (.ref (ad r) :: As.map (zc_v ad)) := ⟨zb_blind, fun U hU hW => ⟨rfl, hpre U hU hW⟩⟩
    rcases zq_l_inv hl with hl | hl
    · exact va_runI (y := zb_y a) (bytes := zb_by a) (maxL := zb_ml a) (ws := zb_wsj a) (rm := zb_rm a) (Ts := zc_tb) (own := zb_own j) (n := b - 1) (nL := zb_ml j) ⟨C.1, C.2.1, C.2.2.2.1, C.2.2.2.2.1, htb⟩ hM ⟨callB_of (b - 1) htb (zc_goodIn hws) rfl rfl rfl (htb _ (zk_w_in k4)) (htb _ hl) ⟨k8, k9, k7⟩ ⟨k5, k6⟩, hname rfl, htb _ (zk_w_in k2)⟩ hp rfl (by rw [List.length_map]; exact hl2) I.2.1.1.size rfl (by show 2 * 0 + _ ≤ 8; omega) hd hfit
    · exact va_runIN (y := zb_y a) (bytes := zb_by a) (maxL := zb_ml a) (ws := zb_wsj a) (rm := zb_rm a) (Ts := zc_tb) (own := zb_own j) (host := "PointMaker") (n := b - 1) (nL := zb_ml j) ⟨C.1, C.2.1, C.2.2.2.1, C.2.2.2.2.1, htb⟩ hM ⟨va_cnB (b - 1) htb (zc_goodIn hws) rfl rfl rfl (C.2.2.2.2.2.2.2.2.1.1 _ hl) (htb _ (zk_w_in k4)) ⟨k8, k9, k7⟩ ⟨k5, k6⟩, hname rfl, htb _ (zk_w_in k2)⟩ hp rfl (by rw [List.length_map]; exact hl2) I.2.1.1.size rfl (by show 2 * 0 + _ ≤ 8; omega) hd hfit
  | false =>
    obtain ⟨hs1, hs2⟩ := hsel rfl
    have ho := zb_cls a (by omega)
    obtain ⟨q, hq⟩ : ∃ q, vwCl[zb_cN a]? = some q := by
      cases hv : vwCl[zb_cN a]? with
      | none => rw [hv] at ho; cases ho
      | some q => exact ⟨q, rfl⟩
    rw [hq] at ho
    have hcell := zb_ws_at (ad := ad) (cA := cA) X 0 r hX
    rw [Nat.zero_add, zb_el0] at hcell
    have hre := va_recv C.2.2.2.2.2.2.2.1 I.1.1 hq hcell
    have ho2 : q.1 = zb_own a := Option.some.inj ho
    rw [ho2] at hre
    have hp : PreV s H (zb_own a) (ad r) (va_Pc ((Sum.inr (Sum.inr r) :: As).map (zc_v ad)) (zb_pre D ad cA A X)) (As.map (zc_v ad)) := ⟨zb_blind, hre, fun U hU hW => ⟨rfl, hpre U hU hW⟩⟩
    rcases zq_l_inv hl with hl | hl
    · exact va_runV (y := zb_y a) (bytes := zb_by a) (maxL := zb_ml a) (ret := none) (ws := zb_wsj a) (rm := zb_rm a) (Ts := zc_tb) (own := zb_own j) (C := zb_own a) (n := b - 1) (nL := zb_ml j) ⟨C.1, C.2.1, C.2.2.2.1, C.2.2.2.2.1, htb⟩ hM ⟨callB_of (b - 1) htb (zc_goodIn hws) rfl rfl rfl (htb _ (zk_w_in k4)) (htb _ hl) ⟨k8, k9, k7⟩ ⟨k5, k6⟩, htb _ (zk_w_in k2), htb _ hs1⟩ hp rfl (by rw [List.length_map]; exact hl2) I.2.1.1.size rfl (by show 2 * 0 + _ ≤ 8; omega) hd hfit
    · exact va_runVN (y := zb_y a) (bytes := zb_by a) (maxL := zb_ml a) (ret := none) (ws := zb_wsj a) (rm := zb_rm a) (Ts := zc_tb) (own := zb_own j) (C := zb_own a) (host := "PointMaker") (n := b - 1) (nL := zb_ml j) ⟨C.1, C.2.1, C.2.2.2.1, C.2.2.2.2.1, htb⟩ hM ⟨va_cnB (b - 1) htb (zc_goodIn hws) rfl rfl rfl (C.2.2.2.2.2.2.2.2.1.1 _ hl) (htb _ (zk_w_in k4)) ⟨k8, k9, k7⟩ ⟨k5, k6⟩, htb _ (zk_w_in k2), htb _ hs1⟩ hp rfl (by rw [List.length_map]; exact hl2) I.2.1.1.size rfl (by show 2 * 0 + _ ≤ 8; omega) hd hfit
theorem zd_new {n pc a : Nat} {ts : List (Int × Nat)} (C : zb_C j p s m args meth c D cA A) (hd : decode (zb_by j) pc = .ok (.new n, 3)) (hn : zb_pc j (i + 1) = pc + 3) (hts : (match ts, vwCl[a]? with
    | [(q1, _), (q2, _), (q3, _)], some (CC, _, N) => zk_w q1.toNat (.classLink (zb_own j) n CC) && zk_w q2.toNat (.instantiable CC N) && zk_w q3.toNat (.initialized CC) && decide ((zb_df a).length = N)
    | _, _ => false) = true) (hA : (if cu + 1 ≤ zb_mc j ∧ su + (zb_df a).length ≤ zb_ms j then K (i + 1) L (.inr (.inr X.length) :: S) (X ++ [(0, a, zb_df a, [])]) (cu + 1) (su + (zb_df a).length) else none) = some Y) (hK : ∀ i2 L2 S2 X2 cu2 su2, K i2 L2 S2 X2 cu2 su2 = some Y → zb_W j n0 ad0 p l e s m args below meth c D cA A Y i2 L2 S2 X2 cu2 su2) {ad : Nat → Nat} {H : Heap} {locs : List Loc} {ls : Array Slot} (I : zb_I j n0 ad0 s D ad cA A L S X H locs ls) : W p l e (zb_rm j) s m args below meth c H locs cu su (MQ below (zb_Qc n0 D ad0 cA A Y) args s (zb_mc j) (zb_ms j) A) (F0 m pc ls (S.map (zc_v ad))) := by
  split at hA
  case isFalse => cases hA
  rename_i hcnd
  split at hts
  case h_2 => cases hts
  rename_i q1 _ q2 _ q3 _ CC T N hc
  simp only [Bool.and_eq_true, decide_eq_true_eq] at hts
  obtain ⟨⟨⟨t1, t2⟩, t3⟩, t4⟩ := hts
  have ha : a < 11 := by
    have := (List.getElem?_eq_some_iff.mp hc).1
    simpa using this
  obtain ⟨ty, hty, hdf⟩ := zb_dv a ha _ hc
  obtain ⟨hin, -, -⟩ := zc_cls hc
  refine va_new (fs := (zb_df a).map (zb_val ad)) (ci := a) (C := CC) (T := T) (N := N) C.1 C.2.1 C.2.2.2.2.2.1 hin ty hty C.2.2.2.2.1 (C.word t1) (C.word t2) (C.word t3) C.2.2.2.2.2.2.2.1 I.1.1 I.1.2.1 I.1.2.2 C.2.2.2.2.2.2.2.2.2.1 hc (hdf ad) hcnd.1 (by rw [← t4]; exact hcnd.2) hd (fun q H1 hP hD hS => ?_)
  have hok : zb_okC X.length (0, a, zb_df a, []) := by
    intro v hv
    have h0 : ∀ a, a < 11 → ∀ o ∈ zb_df a, o = none ∨ o = some (.inl 0) := by decide +kernel
    rcases h0 a ha _ hv with h | h
    · cases h
    · cases h
      exact zc_i0
  obtain ⟨I2, e1, e2⟩ := zb_grow (cc := (0, a, zb_df a, [])) I hok hP hD hS
  rw [← t4]
  have := zb_next hK hn hA hcnd.1 hcnd.2 I2
  rw [List.map_cons, e1, e2] at this
  exact this
theorem zq_na_inv {ts : List (Int × Nat)} {t : ArrayType} {b : Nat} (hts : (match ts, t with
    | [(q, _)], .int => zk_w q.toNat (.arrayClass .int) && decide (b = 1)
    | [(q, _)], .byte => zk_w q.toNat (.arrayClass .byte) && decide (b = 2)
    | [(q, _)], .boolean => zk_w q.toNat (.arrayClass .boolean) && decide (b = 3)
    | _, _ => false) = true) : (t = .int ∧ b = 1 ∧ ∃ k, zk_w k (.arrayClass .int) = true) ∨ (t = .byte ∧ b = 2 ∧ ∃ k, zk_w k (.arrayClass .byte) = true) ∨ (t = .boolean ∧ b = 3 ∧ ∃ k, zk_w k (.arrayClass .boolean) = true) := by
  split at hts
  · rename_i q _
    simp only [Bool.and_eq_true, decide_eq_true_eq] at hts
    exact Or.inl ⟨rfl, hts.2, _, hts.1⟩
  · rename_i q _
    simp only [Bool.and_eq_true, decide_eq_true_eq] at hts
    exact Or.inr (Or.inl ⟨rfl, hts.2, _, hts.1⟩)
  · rename_i q _
    simp only [Bool.and_eq_true, decide_eq_true_eq] at hts
    exact Or.inr (Or.inr ⟨rfl, hts.2, _, hts.1⟩)
  · cases hts
theorem zd_newa {t : ArrayType} {pc b : Nat} {x : Int} (C : zb_C j p s m args meth c D cA A) (hd : decode (zb_by j) pc = .ok (.newarray t, 2)) (hn : zb_pc j (i + 1) = pc + 2) (hts : (t = .int ∧ b = 1 ∧ ∃ k, zk_w k (.arrayClass .int) = true) ∨ (t = .byte ∧ b = 2 ∧ ∃ k, zk_w k (.arrayClass .byte) = true) ∨ (t = .boolean ∧ b = 3 ∧ ∃ k, zk_w k (.arrayClass .boolean) = true)) (hA : (if (0 ≤ x ∧ x ≤ 100000) ∧ cu + 1 ≤ zb_mc j ∧ su + x.toNat ≤ zb_ms j then K (i + 1) L (.inr (.inr X.length) :: S) (X ++ [(b, x.toNat, [], [])]) (cu + 1) (su + x.toNat) else none) = some Y) (hK : ∀ i2 L2 S2 X2 cu2 su2, K i2 L2 S2 X2 cu2 su2 = some Y → zb_W j n0 ad0 p l e s m args below meth c D cA A Y i2 L2 S2 X2 cu2 su2) {ad : Nat → Nat} {H : Heap} {locs : List Loc} {ls : Array Slot} (I : zb_I j n0 ad0 s D ad cA A L (.inl x :: S) X H locs ls) : W p l e (zb_rm j) s m args below meth c H locs cu su (MQ below (zb_Qc n0 D ad0 cA A Y) args s (zb_mc j) (zb_ms j) A) (F0 m pc ls (Value.int (Int32.ofInt x) :: S.map (zc_v ad))) := by
  split at hA
  case isFalse => cases hA
  rename_i hcnd
  obtain ⟨⟨x0, x1⟩, c1, c2⟩ := hcnd
  have hx : zc_i x := by unfold zc_i; omega
  have hneg : ¬ Int32.ofInt x < 0 := fun z => by have := (zc_lt0 hx).mp z; omega
  have hok : ∀ b, zb_okC X.length (b, x.toNat, [], []) := fun b v hv => by cases hv
  have fin : ∀ (b : Nat) (ty : FieldType) (el : va_E), el = zb_el ad cA (b, x.toNat, [], []) → K (i + 1) L (.inr (.inr X.length) :: S) (X ++ [(b, x.toNat, [], [])]) (cu + 1) (su + x.toNat) = some Y → ∀ (q : Nat) (H1 : Heap), va_P D vwCl (zb_ws ad cA 0 X ++ [(q, el)]) H1 → va_D A (zb_ws ad cA 0 X ++ [(q, el)]) → va_S A s.heap H1 locs → W p l e (zb_rm j) s m args below meth c H1 locs (cu + 1) (su + x.toNat) (MQ below (zb_Qc n0 D ad0 cA A Y) args s (zb_mc j) (zb_ms j) A) (F0 m (pc + 2) ls (.ref q :: S.map (zc_v ad))) := by
    intro b ty el he hA q H1 hP hD hS
    subst he
    obtain ⟨I2, e1, e2⟩ := zb_grow (cc := (b, x.toNat, [], [])) I.rest (hok b) hP hD hS
    have := zb_next hK hn hA c1 c2 I2
    rw [List.map_cons, e1, e2] at this
    exact this
  have f0 : (fun k : Nat => Int32.ofInt (zb_fn [] k)) = (fun _ => (0 : Int32)) := rfl
  rcases hts with ⟨rfl, rfl, k, t1⟩ | ⟨rfl, rfl, k, t1⟩ | ⟨rfl, rfl, k, t1⟩
  · refine va_newa (atype := .int) (ty := .int) (a0 := (x.toNat, .inl (fun _ => 0))) C.1 C.2.1 (C.word t1) rfl C.2.2.2.2.2.2.2.1 I.1.1 I.1.2.1 I.1.2.2 C.2.2.2.2.2.2.2.2.2.1 (fun _ => rfl) hneg (zc_cl hx) (by show _ * 4 ≤ _; omega) c1 c2 hd (fun q ca H1 hK2 hP hD hS => ?_)
    have hca := zb_sameA (t := 1) C.2.2.2.2.2.2.2.1 rfl (hK2.2 6 _ rfl).2
    subst hca
    exact fin 1 .int _ rfl hA q H1 hP hD hS
  · refine va_newa (atype := .byte) (ty := .byte) (a0 := (x.toNat, .inl (fun _ => 0))) C.1 C.2.1 (C.word t1) rfl C.2.2.2.2.2.2.2.1 I.1.1 I.1.2.1 I.1.2.2 C.2.2.2.2.2.2.2.2.2.1 (fun _ => rfl) hneg (zc_cl hx) (by show _ * 1 ≤ _; omega) c1 c2 hd (fun q ca H1 hK2 hP hD hS => ?_)
    have hca := zb_sameA (t := 2) C.2.2.2.2.2.2.2.1 rfl (hK2.2 6 _ rfl).2
    subst hca
    exact fin 2 .byte _ rfl hA q H1 hP hD hS
  · refine va_newa (atype := .boolean) (ty := .boolean) (a0 := (x.toNat, .inl (fun _ => 0))) C.1 C.2.1 (C.word t1) rfl C.2.2.2.2.2.2.2.1 I.1.1 I.1.2.1 I.1.2.2 C.2.2.2.2.2.2.2.2.2.1 (fun _ => rfl) hneg (zc_cl hx) (by show _ * 1 ≤ _; omega) c1 c2 hd (fun q ca H1 hK2 hP hD hS => ?_)
    have hca := zb_sameA (t := 3) C.2.2.2.2.2.2.2.1 rfl (hK2.2 6 _ rfl).2
    subst hca
    exact fin 3 .boolean _ rfl hA q H1 hP hD hS
theorem zd_anew {n pc b : Nat} {ts : List (Int × Nat)} {x : Int} (C : zb_C j p s m args meth c D cA A) (hd : decode (zb_by j) pc = .ok (.anewarray n, 3)) (hn : zb_pc j (i + 1) = pc + 3) (hts : (match ts with
    | [(q, _)] => (zk_w q.toNat (.classLink (zb_own j) n "PointMaker$Program") && decide (b = 4)) || (zk_w q.toNat (.classLink (zb_own j) n "PointMaker$Sheet") && decide (b = 5))
    | _ => false) = true) (hA : (if (0 ≤ x ∧ x ≤ 100000) ∧ cu + 1 ≤ zb_mc j ∧ su + x.toNat ≤ zb_ms j then K (i + 1) L (.inr (.inr X.length) :: S) (X ++ [(b, x.toNat, List.replicate x.toNat none, [])]) (cu + 1) (su + x.toNat) else none) = some Y) (hK : ∀ i2 L2 S2 X2 cu2 su2, K i2 L2 S2 X2 cu2 su2 = some Y → zb_W j n0 ad0 p l e s m args below meth c D cA A Y i2 L2 S2 X2 cu2 su2) {ad : Nat → Nat} {H : Heap} {locs : List Loc} {ls : Array Slot} (I : zb_I j n0 ad0 s D ad cA A L (.inl x :: S) X H locs ls) : W p l e (zb_rm j) s m args below meth c H locs cu su (MQ below (zb_Qc n0 D ad0 cA A Y) args s (zb_mc j) (zb_ms j) A) (F0 m pc ls (Value.int (Int32.ofInt x) :: S.map (zc_v ad))) := by
  split at hA
  case isFalse => cases hA
  rename_i hcnd
  obtain ⟨⟨x0, x1⟩, c1, c2⟩ := hcnd
  have hx : zc_i x := by unfold zc_i; omega
  have hneg : ¬ Int32.ofInt x < 0 := fun z => by have := (zc_lt0 hx).mp z; omega
  have hok : ∀ b, zb_okC X.length (b, x.toNat, List.replicate x.toNat none, []) := fun b v hv => by have := List.eq_of_mem_replicate hv; cases this
  have rfn : zb_ref ad (List.replicate x.toNat none) = fun _ => none := by
    funext k
    unfold zb_ref
    split
    · rename_i q hq
      have := List.eq_of_mem_replicate (List.mem_of_getElem? hq)
      cases this
    · rfl
  have fin : ∀ (b : Nat) (el : va_E), el = zb_el ad cA (b, x.toNat, List.replicate x.toNat none, []) → K (i + 1) L (.inr (.inr X.length) :: S) (X ++ [(b, x.toNat, List.replicate x.toNat none, [])]) (cu + 1) (su + x.toNat) = some Y → ∀ (q : Nat) (H1 : Heap), va_P D vwCl (zb_ws ad cA 0 X ++ [(q, el)]) H1 → va_D A (zb_ws ad cA 0 X ++ [(q, el)]) → va_S A s.heap H1 locs → W p l e (zb_rm j) s m args below meth c H1 locs (cu + 1) (su + x.toNat) (MQ below (zb_Qc n0 D ad0 cA A Y) args s (zb_mc j) (zb_ms j) A) (F0 m (pc + 3) ls (.ref q :: S.map (zc_v ad))) := by
    intro b el he hA q H1 hP hD hS
    subst he
    obtain ⟨I2, e1, e2⟩ := zb_grow (cc := (b, x.toNat, List.replicate x.toNat none, [])) I.rest (hok b) hP hD hS
    have := zb_next hK hn hA c1 c2 I2
    rw [List.map_cons, e1, e2] at this
    exact this
  split at hts
  · rename_i q _
    simp only [Bool.or_eq_true, Bool.and_eq_true, decide_eq_true_eq] at hts
    rcases hts with ⟨t1, rfl⟩ | ⟨t1, rfl⟩
    · refine va_newq (C := "PointMaker$Program") C.1 C.2.1 C.2.2.2.2.1 (C.word t1) C.2.2.2.2.2.2.2.2.1.2.1 C.2.2.2.2.2.2.2.1 I.1.1 I.1.2.1 I.1.2.2 C.2.2.2.2.2.2.2.2.2.1 hneg (zc_cl hx) (by omega) c1 c2 hd (fun q ca H1 hK2 hP hD hS => ?_)
      have hca := zb_sameA (t := 4) C.2.2.2.2.2.2.2.1 rfl (hK2.2 6 _ rfl).2
      subst hca
      exact fin 4 _ (by show _ = Sum.inl (cA 4, x.toNat, Sum.inr (Sum.inr (Sum.inr (Sum.inr (zb_ref ad (List.replicate x.toNat none)))))); rw [rfn]) hA q H1 hP hD hS
    · refine va_newq (C := "PointMaker$Sheet") C.1 C.2.1 C.2.2.2.2.1 (C.word t1) C.2.2.2.2.2.2.2.2.1.2.2 C.2.2.2.2.2.2.2.1 I.1.1 I.1.2.1 I.1.2.2 C.2.2.2.2.2.2.2.2.2.1 hneg (zc_cl hx) (by omega) c1 c2 hd (fun q ca H1 hK2 hP hD hS => ?_)
      have hca := zb_sameA (t := 5) C.2.2.2.2.2.2.2.1 rfl (hK2.2 6 _ rfl).2
      subst hca
      exact fin 5 _ (by show _ = Sum.inl (cA 5, x.toNat, Sum.inr (Sum.inr (Sum.inr (Sum.inr (zb_ref ad (List.replicate x.toNat none)))))); rw [rfn]) hA q H1 hP hD hS
  · cases hts
end ZC
end
section
/-! the builder's whole run -/
section ZD
variable {j n0 : Nat} {p : Program} {l : Launch} {e : Env} {s : State} {m : MethodId} {args : Array Value} {below : List Frame} {meth : Method} {c : Code} {D : va_G} {ad0 : Nat → Nat} {cA : Nat → ClassId} {A : Nat → Prop} {i : Nat} {L : zL} {S : List zV} {X Y : zbX} {cu su : Nat} {K : Nat → zL → List zV → zbX → Nat → Nat → Option zbX} {call : Nat → List zV → zbX → Option zbX}
theorem zd_put {n pc a b : Nat} {d : Int} {ts : List (Int × Nat)} {v : zV} {r : Nat} {S2 : List zV} {fs : List (Option zV)} {w : List (Nat × Int)} (C : zb_C j p s m args meth c D cA A) (hd : decode (zb_by j) pc = .ok (.putfield n, 3)) (hn : zb_pc j (i + 1) = pc + 3) (hf : zq_f j n a b d ts true = true) (hX : X[r]? = some (0, a, fs, w)) (hb : b < fs.length) (htok : zb_tok d v = true) (hk : K (i + 1) L S2 (X.set r (0, a, fs.set b (some v), w)) cu su = some Y) (hc : cu ≤ zb_mc j) (hs : su ≤ zb_ms j) (hK : ∀ i2 L2 S2 X2 cu2 su2, K i2 L2 S2 X2 cu2 su2 = some Y → zb_W j n0 ad0 p l e s m args below meth c D cA A Y i2 L2 S2 X2 cu2 su2) {ad : Nat → Nat} {H : Heap} {locs : List Loc} {ls : Array Slot} (I : zb_I j n0 ad0 s D ad cA A L (v :: .inr (.inr r) :: S2) X H locs ls) : W p l e (zb_rm j) s m args below meth c H locs cu su (MQ below (zb_Qc n0 D ad0 cA A Y) args s (zb_mc j) (zb_ms j) A) (F0 m pc ls (zc_v ad v :: Value.ref (ad r) :: S2.map (zc_v ad))) := by
  obtain ⟨q, CC, T, N, hcl, hbN, hw, hp⟩ := zq_f_inv hf
  obtain ⟨hfin, ty, hty, hd3⟩ := hp rfl
  obtain ⟨hin, ⟨ty0, hty0⟩, hnm⟩ := zc_cls hcl
  have hcell := zb_ws_at (ad := ad) (cA := cA) X 0 r hX
  rw [Nat.zero_add, zb_el0] at hcell
  have hok : zb_okC X.length (0, a, fs.set b (some v), w) := by
    intro u hu
    rcases List.mem_or_eq_of_mem_set hu with hu | hu
    · exact I.2.2.2.1 _ (List.mem_of_getElem? hX) u hu
    · cases hu
      exact I.top
  have hfit : narrow ty (zc_v ad v) = zc_v ad v ∧ fits ty (zc_v ad v) = true := by
    rcases zb_tok_inv htok with ⟨x, rfl, h0⟩ | ⟨q, rfl, h0⟩
    · rcases h0 with h0 | ⟨h0, h1⟩
      · rcases hd3 with ⟨_, rfl⟩ | ⟨h2, _⟩ | ⟨h2, _⟩
        · exact ⟨rfl, rfl⟩
        · omega
        · omega
      · rcases hd3 with ⟨h2, _⟩ | ⟨_, rfl⟩ | ⟨h2, _⟩
        · omega
        · rcases h1 with rfl | rfl
          · exact ⟨show narrow .boolean (.int (Int32.ofInt 0)) = .int (Int32.ofInt 0) by decide, show fits .boolean (.int (Int32.ofInt 0)) = true by decide⟩
          · exact ⟨show narrow .boolean (.int (Int32.ofInt 1)) = .int (Int32.ofInt 1) by decide, show fits .boolean (.int (Int32.ofInt 1)) = true by decide⟩
        · omega
    · rcases hd3 with ⟨h2, _⟩ | ⟨h2, _⟩ | ⟨_, h2⟩
      · omega
      · omega
      · cases ty with
        | object nm => exact ⟨rfl, rfl⟩
        | array t => exact ⟨rfl, rfl⟩
        | _ => cases h2
  have fin : ∀ (H1 : Heap) (locs1 : List Loc), va_P D vwCl ((zb_ws ad cA 0 X).set r (ad r, .inr (a, (fs.map (zb_val ad)).set b (zc_v ad v)))) H1 → va_D A ((zb_ws ad cA 0 X).set r (ad r, .inr (a, (fs.map (zb_val ad)).set b (zc_v ad v)))) → va_S A s.heap H1 locs1 → W p l e (zb_rm j) s m args below meth c H1 locs1 cu su (MQ below (zb_Qc n0 D ad0 cA A Y) args s (zb_mc j) (zb_ms j) A) (F0 m (pc + 3) ls (S2.map (zc_v ad))) := by
    intro H1 locs1 hP hD hS
    have ee : (fs.map (zb_val ad)).set b (zc_v ad v) = (fs.set b (some v)).map (zb_val ad) := by rw [List.map_set]; rfl
    rw [ee] at hP hD
    exact zb_next hK hn hk hc hs (zb_setI (cc := (0, a, fs.set b (some v), w)) I.rest.rest hok hP hD hS)
  by_cases hfi : (T b).2.2.2 = false
  · exact va_put (D := D) (ci := a) (v := zc_v ad v) (ty := ty) (C := CC) (T := T) (N := N) C.1 C.2.1 C.2.2.2.2.2.1 hin ty0 hty0 hnm C.2.2.2.2.1 C.2.2.2.2.2.2.2.1 I.1.1 I.1.2.1 I.1.2.2 r hcell hcl b hbN (C.word hw) (fun _ z => z) hfi hty hfit.1 hfit.2 (by rw [List.length_map]; exact hb) hd fin
  · have hft : (T b).2.2.2 = true := by simpa using hfi
    rcases hfin with h | ⟨h1, h2⟩
    · exact absurd h hfi
    · exact va_putF (D := D) (ci := a) (v := zc_v ad v) (ty := ty) (C := CC) (T := T) (N := N) C.1 C.2.1 C.2.2.2.2.2.1 hin ty0 hty0 hnm C.2.2.2.2.1 C.2.2.2.2.2.2.2.1 I.1.1 I.1.2.1 I.1.2.2 r hcell hcl b hbN (C.word hw) (fun _ z => z) hft (C.2.2.2.2.2.2.2.2.2.2.trans h1) h2 hty hfit.1 hfit.2 (by rw [List.length_map]; exact hb) hd fin
set_option maxHeartbeats 4000000 in
theorem zd_step {w : zE} (C : zb_C j p s m args meth c D cA A) (hcall : ∀ a As X Y, call a As X = some Y → zB a As X Y) (he : zq_e j i w = true) (hA : zb_act call j w i L S X cu su K = some Y) (hK : ∀ i2 L2 S2 X2 cu2 su2, K i2 L2 S2 X2 cu2 su2 = some Y → zb_W j n0 ad0 p l e s m args below meth c D cA A Y i2 L2 S2 X2 cu2 su2) : zb_W j n0 ad0 p l e s m args below meth c D cA A Y i L S X cu su := by
  intro hc hs ad H locs ls I
  obtain ⟨pc, ins, len, a, b, d, ts⟩ := w
  cases ins
  case aload_n n =>
    simp only [zq_e, zq_s, zq_d, Bool.and_eq_true, decide_eq_true_eq] at he
    obtain ⟨hpc, ⟨hd, hn⟩, ha⟩ := he
    simp only [zb_act] at hA
    split at hA
    · rename_i r hr
      rw [hpc]
      refine lv_aload_n C.1 C.2.1 hd ha (I.2.1.1.at hr) ?_
      exact zb_next hK hn hA hc hs (I.push (I.2.1.2 _ _ hr))
    · cases hA
  case iload_n n =>
    simp only [zq_e, zq_s, zq_d, Bool.and_eq_true, decide_eq_true_eq] at he
    obtain ⟨hpc, ⟨hd, hn⟩, ha⟩ := he
    simp only [zb_act] at hA
    split at hA
    · rename_i r hr
      rw [hpc]
      refine lv_iload_n C.1 C.2.1 hd ha (I.2.1.1.at hr) ?_
      exact zb_next hK hn hA hc hs (I.push (I.2.1.2 _ _ hr))
    · cases hA
  case iconst n =>
    simp only [zq_e, zq_s, zq_d, zk_ri, Bool.and_eq_true, decide_eq_true_eq] at he
    obtain ⟨hpc, ⟨⟨hd, hn⟩, hv⟩, hr⟩ := he
    rw [hpc]
    refine lv_iconst (v := Int32.ofInt d) C.1 C.2.1 hd hv ?_
    exact zb_next hK hn hA hc hs (I.push (v := .inl d) hr)
  case bipush n =>
    simp only [zq_e, zq_s, zq_d, zk_ri, Bool.and_eq_true, decide_eq_true_eq] at he
    obtain ⟨hpc, ⟨⟨hd, hn⟩, hv⟩, hr⟩ := he
    rw [hpc]
    refine lv_bipush (v := Int32.ofInt d) C.1 C.2.1 hd hv ?_
    exact zb_next hK hn hA hc hs (I.push (v := .inl d) hr)
  case sipush n =>
    simp only [zq_e, zq_s, zq_d, zk_ri, Bool.and_eq_true, decide_eq_true_eq] at he
    obtain ⟨hpc, ⟨⟨hd, hn⟩, hv⟩, hr⟩ := he
    rw [hpc]
    refine lv_sipush (v := Int32.ofInt d) C.1 C.2.1 hd hv ?_
    exact zb_next hK hn hA hc hs (I.push (v := .inl d) hr)
  case dup =>
    simp only [zq_e, zq_s, zq_d, Bool.and_eq_true, decide_eq_true_eq] at he
    obtain ⟨hpc, hd, hn⟩ := he
    simp only [zb_act] at hA
    split at hA
    · rw [hpc]
      refine lv_dup C.1 C.2.1 hd rfl ?_
      exact zb_next hK hn hA hc hs (I.push I.top)
    · cases hA
  case imul =>
    simp only [zq_e, zq_s, zq_d, Bool.and_eq_true, decide_eq_true_eq] at he
    obtain ⟨hpc, hd, hn⟩ := he
    simp only [zb_act] at hA
    split at hA
    · rename_i y x S2
      split at hA
      · rename_i hr
        rw [hpc]
        have ee : Int32.ofInt (x * y) = Int32.ofInt x * Int32.ofInt y := Int32.ofInt_mul x y
        refine lv_imul C.1 C.2.1 hd ?_
        rw [← ee]
        exact zb_next hK hn hA hc hs (I.rest.rest.push (v := .inl (x * y)) hr)
      · cases hA
    · cases hA
  case istore_n n =>
    simp only [zq_e, zq_s, zq_d, Bool.and_eq_true, decide_eq_true_eq] at he
    obtain ⟨hpc, ⟨⟨hd, hn⟩, ha⟩, hl⟩ := he
    simp only [zb_act] at hA
    split at hA
    · rename_i x S2
      rw [hpc]
      obtain ⟨lst, g1, g2⟩ := I.2.1.1
      refine lv_istore_n C.1 C.2.1 hd ha g1 hl rfl (fun ls2 g3 => ?_)
      exact zb_next hK hn hA hc hs ⟨I.1, ⟨⟨_, g3, zc_se_in g2 a (.inl x)⟩, zb_se_ok I.2.1.2 I.top⟩, I.rest.2.2⟩
    · cases hA
  case iinc n v =>
    simp only [zq_e, zq_s, zq_d, Bool.and_eq_true, decide_eq_true_eq] at he
    obtain ⟨hpc, ⟨⟨⟨hd, hn⟩, ha⟩, hv⟩, hl⟩ := he
    simp only [zb_act] at hA
    split at hA
    · rename_i x hx
      split at hA
      · rename_i hr
        rw [hpc]
        subst ha
        subst hv
        obtain ⟨lst, g1, g2⟩ := I.2.1.1
        obtain ⟨k, hk2⟩ := List.mem_iff_getElem?.mp (g2 _ _ hx)
        refine lv_iinc (v := Int32.ofInt (x + v)) C.1 C.2.1 hd g1 hk2 (Int32.ofInt_add x v).symm hl rfl (fun ls2 g3 => ?_)
        exact zb_next hK hn hA hc hs ⟨I.1, ⟨⟨_, g3, zc_se_in g2 _ (.inl (x + v))⟩, zb_se_ok I.2.1.2 (show zb_ok _ (.inl (x + v)) from hr)⟩, I.2.2⟩
      · cases hA
    · cases hA
  case if_icmp q n =>
    simp only [zq_e, zq_s, zq_d, zq_t, Bool.and_eq_true, decide_eq_true_eq] at he
    obtain ⟨hpc, ⟨⟨hd, hn⟩, ht⟩, -⟩ := he
    simp only [zb_act] at hA
    split at hA
    · rename_i y x S2
      have hy : zc_i y := I.top
      have hx : zc_i x := I.rest.top
      rw [hpc]
      refine lv_icmp_ge C.1 C.2.1 hd ht (fun z => ?_) (fun z => ?_)
      · have := (zc_le hy hx).mp z
        rw [if_neg (by omega)] at hA
        exact zb_next hK rfl hA hc hs I.rest.rest
      · have : ¬ y ≤ x := fun q => z ((zc_le hy hx).mpr q)
        rw [if_pos (by omega)] at hA
        exact zb_next hK hn hA hc hs I.rest.rest
    · cases hA
  case goto n =>
    simp only [zq_e, zq_d, zq_t, Bool.and_eq_true, decide_eq_true_eq] at he
    obtain ⟨hpc, hd, ht⟩ := he
    rw [hpc]
    refine lv_goto C.1 C.2.1 hd ht ?_
    exact zb_next hK rfl hA hc hs I
  case new n =>
    simp only [zq_e, zq_s, zq_d, Bool.and_eq_true, decide_eq_true_eq] at he
    obtain ⟨hpc, ⟨hd, hn⟩, hts⟩ := he
    rw [hpc]
    exact zd_new C hd hn hts hA hK I
  case newarray t =>
    simp only [zq_e, zq_s, zq_d, Bool.and_eq_true, decide_eq_true_eq] at he
    obtain ⟨hpc, ⟨hd, hn⟩, hts⟩ := he
    simp only [zb_act] at hA
    split at hA
    · rw [hpc]
      exact zd_newa C hd hn (zq_na_inv hts) hA hK I
    · cases hA
  case anewarray n =>
    simp only [zq_e, zq_s, zq_d, Bool.and_eq_true, decide_eq_true_eq] at he
    obtain ⟨hpc, ⟨hd, hn⟩, hts⟩ := he
    simp only [zb_act] at hA
    split at hA
    · rw [hpc]
      exact zd_anew C hd hn hts hA hK I
    · cases hA
  case getfield n =>
    simp only [zq_e, zq_s, zq_d, Bool.and_eq_true, decide_eq_true_eq] at he
    obtain ⟨hpc, ⟨hd, hn⟩, hf⟩ := he
    simp only [zb_act] at hA
    split at hA
    case h_2 => cases hA
    rename_i r S2
    split at hA
    case h_2 => cases hA
    rename_i cc fs w2 hX
    split at hA
    case isFalse => cases hA
    rename_i hca
    subst hca
    split at hA
    case h_2 => cases hA
    rename_i v hv
    obtain ⟨q, CC, T, N, hcl, hbN, hw, -⟩ := zq_f_inv hf
    obtain ⟨hin, -, -⟩ := zc_cls hcl
    have hcell := zb_ws_at (ad := ad) (cA := cA) X 0 r hX
    rw [Nat.zero_add, zb_el0] at hcell
    rw [hpc]
    refine va_get (D := D) (ci := cc) (C := CC) (T := T) (N := N) (v := zc_v ad v) C.1 C.2.1 C.2.2.2.2.2.1 hin C.2.2.2.2.1 C.2.2.2.2.2.2.2.1 I.1.1 r hcell hcl b hbN (C.word hw) (fun _ z => z) (by rw [List.getElem?_map, hv]; rfl) hd ?_
    exact zb_next hK hn hA hc hs (I.rest.push (I.2.2.2.1 _ (List.mem_of_getElem? hX) v (List.mem_of_getElem? hv)))
  case putfield n =>
    simp only [zq_e, zq_s, zq_d, Bool.and_eq_true, decide_eq_true_eq] at he
    obtain ⟨hpc, ⟨hd, hn⟩, hf⟩ := he
    simp only [zb_act] at hA
    split at hA
    case h_2 => cases hA
    rename_i v r S2
    split at hA
    case h_2 => cases hA
    rename_i cc fs w2 hX
    split at hA
    case isFalse => cases hA
    rename_i hcnd
    obtain ⟨hca, hb, htok⟩ := hcnd
    subst hca
    rw [hpc]
    exact zd_put C hd hn hf hX hb htok hA hc hs hK I
  case iastore =>
    simp only [zq_e, zq_s, zq_d, Bool.and_eq_true, decide_eq_true_eq] at he
    obtain ⟨hpc, hd, hn⟩ := he
    simp only [zb_act] at hA
    split at hA
    case h_2 => cases hA
    rename_i v k r S2
    split at hA
    case h_2 => cases hA
    rename_i nn fs w2 hX
    split at hA
    case isFalse => cases hA
    rename_i hcnd
    have hk : zc_i k := I.rest.top
    have hcell := zb_ws_at (ad := ad) (cA := cA) X 0 r hX
    rw [Nat.zero_add, zb_el1] at hcell
    rw [hpc]
    refine va_iast C.1 C.2.1 C.2.2.2.2.2.2.2.1 I.1.1 I.1.2.1 I.1.2.2 r 1 hcell rfl (zc_in hk hcnd.1 hcnd.2) hd (fun H1 locs1 hP hD hS => ?_)
    rw [zc_cl hk, zb_upd] at hP hD
    exact zb_next hK hn hA hc hs (zb_setI (cc := (1, nn, fs, (k.toNat, v) :: w2)) I.rest.rest.rest (fun u hu => I.2.2.2.1 _ (List.mem_of_getElem? hX) u hu) hP hD hS)
  case sastore =>
    simp only [zq_e, zq_s, zq_d, Bool.and_eq_true, decide_eq_true_eq] at he
    obtain ⟨hpc, hd, hn⟩ := he
    simp only [zb_act] at hA
    split at hA
    case h_2 => cases hA
    rename_i v k r S2
    split at hA
    case h_2 => cases hA
    rename_i nn fs w2 hX
    split at hA
    case isFalse => cases hA
    rename_i hcnd
    have hk : zc_i k := I.rest.top
    have hcell := zb_ws_at (ad := ad) (cA := cA) X 0 r hX
    rw [Nat.zero_add, zb_el3] at hcell
    rw [hpc]
    refine va_zast C.1 C.2.1 C.2.2.2.2.2.2.2.1 I.1.1 I.1.2.1 I.1.2.2 r 3 hcell rfl (zc_in hk hcnd.1.1 hcnd.1.2) hd (fun H1 locs1 hP hD hS => ?_)
    rw [zc_z_nar hcnd.2, zc_cl hk, zb_upd] at hP hD
    exact zb_next hK hn hA hc hs (zb_setI (cc := (3, nn, fs, (k.toNat, v) :: w2)) I.rest.rest.rest (fun u hu => I.2.2.2.1 _ (List.mem_of_getElem? hX) u hu) hP hD hS)
  case aastore =>
    simp only [zq_e, zq_s, zq_d, Bool.and_eq_true, decide_eq_true_eq] at he
    obtain ⟨hpc, hd, hn⟩ := he
    simp only [zb_act] at hA
    split at hA
    case h_2 => cases hA
    rename_i q k r S2
    split at hA
    case h_2 => cases hA
    rename_i t nn fs w2 c2 fs2 w3 hX hX2
    split at hA
    case isFalse => cases hA
    rename_i hcnd
    obtain ⟨htc, ⟨k0, k1⟩, hlen⟩ := hcnd
    have hk : zc_i k := I.rest.top
    have hcell := zb_ws_at (ad := ad) (cA := cA) X 0 r hX
    have hcell2 := zb_ws_at (ad := ad) (cA := cA) X 0 q hX2
    rw [Nat.zero_add] at hcell hcell2
    rw [zb_el0] at hcell2
    have hok : zb_okC X.length (t, nn, fs.set k.toNat (some (.inr (.inr q))), w2) := by
      intro u hu
      rcases List.mem_or_eq_of_mem_set hu with hu | hu
      · exact I.2.2.2.1 _ (List.mem_of_getElem? hX) u hu
      · cases hu
        exact I.top
    rw [hpc]
    have hkl : k.toNat < fs.length := by omega
    rcases htc with ⟨rfl, rfl⟩ | ⟨rfl, rfl⟩
    · refine va_astq C.1 C.2.1 C.2.2.2.2.2.2.2.1 I.1.1 I.1.2.1 I.1.2.2 r 4 q 3 (r := (RX3, TX3, 3)) hcell rfl hcell2 rfl (zc_in hk k0 k1) hd (fun H1 locs1 hP hD hS => ?_)
      rw [zc_cl hk, zb_refs hkl] at hP hD
      exact zb_next hK hn hA hc hs (zb_setI (cc := (4, nn, fs.set k.toNat (some (.inr (.inr q))), w2)) I.rest.rest.rest hok hP hD hS)
    · refine va_astq C.1 C.2.1 C.2.2.2.2.2.2.2.1 I.1.1 I.1.2.1 I.1.2.2 r 5 q 6 (r := (RX6, TX6, 3)) hcell rfl hcell2 rfl (zc_in hk k0 k1) hd (fun H1 locs1 hP hD hS => ?_)
      rw [zc_cl hk, zb_refs hkl] at hP hD
      exact zb_next hK hn hA hc hs (zb_setI (cc := (5, nn, fs.set k.toNat (some (.inr (.inr q))), w2)) I.rest.rest.rest hok hP hD hS)
  case invokespecial n =>
    simp only [zq_e, zq_s, zq_d, Bool.and_eq_true, decide_eq_true_eq] at he
    obtain ⟨hpc, ⟨hd, hn⟩, hx⟩ := he
    simp only [zb_act] at hA
    by_cases h99 : a = 99
    · rw [if_pos h99] at hA hx
      simp only [Bool.and_eq_true, decide_eq_true_eq] at hx
      obtain ⟨⟨hx1, hx2⟩, hx3⟩ := hx
      split at hA
      case h_2 => cases hA
      rename_i r
      split at hx1
      case h_2 => cases hx1
      have hcode : Cond.code Lib.objectInit ⟨#[0xb1]⟩ 1 none ∈ lw_tbl ∧ Cond.instanceMethod Lib.objectInit ∈ lw_tbl := by decide +kernel
      rw [hpc]
      have htb := C.2.2.2.2.2.1
      refine W.objInit (g := F0 m pc ls [Value.ref (ad r)]) (a := ad r) (rest := []) C.1 C.2.1 C.2.2.2.2.1 (htb _ (zk_w_in hx1)) (htb _ (zc_tbI hcode.2 rfl)) (htb _ (zc_tbI hcode.1 rfl)) rfl (I.2.1.1.size.trans C.2.2.2.1.symm) rfl hd hx2 (by show 2 * 0 + 0 + 12 ≤ _; omega) ?_
      exact zb_next hK hn hA hc hs I.rest
    · rw [if_neg h99] at hA hx
      simp only [Bool.and_eq_true, decide_eq_true_eq] at hx
      obtain ⟨⟨⟨hx1, hx2⟩, hx3⟩, hx4⟩ := hx
      rw [hpc]
      exact zd_inv true C hcall hd hn hx1 hx2 (fun _ => hx4) (fun z => by cases z) hA hK I
  case invokevirtual n =>
    simp only [zq_e, zq_s, zq_d, Bool.and_eq_true, decide_eq_true_eq] at he
    obtain ⟨hpc, ⟨⟨⟨⟨⟨⟨hd, hn⟩, hx1⟩, hx2⟩, hx3⟩, hx4⟩, hx5⟩, hx6⟩ := he
    rw [hpc]
    exact zd_inv false C hcall hd hn hx1 hx2 (fun z => by cases z) (fun _ => ⟨zk_w_in hx6, hx4⟩) hA hK I
  case return_ =>
    simp only [zq_e, zq_d, Bool.and_eq_true, decide_eq_true_eq] at he
    obtain ⟨hpc, hd⟩ := he
    simp only [zb_act] at hA
    split at hA
    case h_2 => cases hA
    cases hA
    rw [hpc]
    refine W.widen (k := zb_mc j) (n := zb_ms j) hc hs ?_
    exact W.vret C.1 C.2.1 C.2.2.1 (fun t ht hW => ⟨⟨rfl, ad, I.2.2.2.2.2, I.2.2.2.1, I.2.2.2.2.1, by rw [ht]; exact I.1.1, va_K.moved hW.alike C.2.2.2.2.2.2.2.1, I.1.2.1⟩, I.1.2.2.F ht⟩) I.1.2.2.2.2 hd C.2.2.2.2.2.2.1
  all_goals cases hA
end ZD
end
section
/-! THE BUILDER'S RUN, whole -/
def zq_rows (j : Nat) : List zE → Nat → Bool
  | [], _ => true
  | w :: T, i => zq_e j i w && zq_rows j T (i + 1)
theorem zq_rows_at {j : Nat} {w : zE} : ∀ (T : List zE) (k i : Nat), zq_rows j T k = true → T[i]? = some w → zq_e j (k + i) w = true
  | [], _, _, _, h => by simp at h
  | v :: T, k, 0, hz, h => by
    simp only [zq_rows, Bool.and_eq_true] at hz
    simp at h
    rw [← h]
    exact hz.1
  | v :: T, k, i + 1, hz, h => by
    simp only [zq_rows, Bool.and_eq_true] at hz
    have := zq_rows_at T (k + 1) i hz.2 (by simpa using h)
    rw [show k + (i + 1) = k + 1 + i by omega]
    exact this
def zq_meth (j : Nat) : Bool := zq_rows j (zb_cd j) 0 && decide (zb_pc j 0 = 0) && plainName (zb_own j)
theorem zq_all : ∀ j, j < 12 → zq_meth j = true := by decide +kernel
section ZE
variable {j n0 : Nat} {p : Program} {l : Launch} {e : Env} {s : State} {m : MethodId} {args : Array Value} {below : List Frame} {meth : Method} {c : Code} {D : va_G} {ad0 : Nat → Nat} {cA : Nat → ClassId} {A : Nat → Prop} {Y : zbX} {call : Nat → List zV → zbX → Option zbX}
theorem zd_exec (C : zb_C j p s m args meth c D cA A) (hj : zq_meth j = true) (hcall : ∀ a As X Y, call a As X = some Y → zB a As X Y) : ∀ (n i : Nat) (L : zL) (S : List zV) (X : zbX) (cu su : Nat), zb_exec call j n i L S X cu su = some Y → zb_W j n0 ad0 p l e s m args below meth c D cA A Y i L S X cu su
  | 0, i, L, S, X, cu, su, h => by cases h
  | n + 1, i, L, S, X, cu, su, h => by
    simp only [zb_exec] at h
    split at h
    case h_2 => cases h
    rename_i w hw
    have hj2 := hj
    simp only [zq_meth, Bool.and_eq_true] at hj2
    have he := zq_rows_at (zb_cd j) 0 i hj2.1.1 hw
    rw [Nat.zero_add] at he
    exact zd_step C hcall he h (fun i2 L2 S2 X2 cu2 su2 hk => zd_exec C hj hcall n i2 L2 S2 X2 cu2 su2 hk)
end ZE
theorem zx_en_ok {As : List zV} {n k : Nat} (h : zb_okS n As) : zb_okL n (zx_en As k) := fun i v hv => h v (zx_en_in (ad := id) As k 0 i v hv).2
/-- a constructor's contract, out of the builder's run -/
theorem zd_call : ∀ (n j : Nat) (As : List zV) (X Y : zbX), zb_call n j As X = some Y → zB j As X Y := by
  intro n
  induction n with
  | zero => intro j As X Y h; cases h
  | succ n ih =>
    intro j As X Y h hok hwf l D ad cA A
    simp only [zb_call] at h
    split at h
    case isFalse => cases h
    rename_i hcnd
    have hj := zq_all j hcnd.1
    have hj2 := hj
    simp only [zq_meth, Bool.and_eq_true, decide_eq_true_eq] at hj2
    refine Met.ofW (cc := zb_by j) (maxL := zb_ml j) (ret := none) hj2.2 rfl ?_
    intro p e s m args below meth c s₁ B hml hv
    obtain ⟨rfl, hP, hK, hD, hX, hA⟩ := hv
    have hts := atoms_spec (ws := zb_wsj j) B.pre
    have hown : s.vm.findClass (zb_own j) = some m.cls := findClass_of_methodNamed B.named
    have hnm : meth.name = (zb_y j).name := (name_of_methodNamed B.named B.method).1
    have C : zb_C j p s m (As.map (zc_v ad)).toArray meth c D cA A := ⟨B.exec, B.bytes, B.returns, hml, hown, fun w hw => hts w (List.mem_cons_of_mem _ hw), B.notSynchronized, hK, hX, hA, hnm⟩
    have hl := lv_entry (As.map (zc_v ad)) (n := zb_ml j) (by rw [zx_sz_sl]; exact hcnd.2)
    rw [lg_entry_eq]
    have W0 := zd_exec (n0 := X.length) (ad0 := ad) (l := l) (e := e) (below := below) C hj ih 1000 0 _ [] X 0 0 h (Nat.zero_le _) (Nat.zero_le _) ad s.heap [] _ ⟨⟨hP, hD, va_S.rf⟩, ⟨⟨_, hl, fun i v hv => by have := (zx_en_in (ad := ad) As (zb_ml j) 0 i v hv).1; rwa [Nat.zero_add] at this⟩, zx_en_ok hok⟩, ⟨(fun v hv => by cases hv), hwf, Nat.le_refl _, fun _ _ => rfl⟩⟩
    rw [hj2.1.2] at W0
    exact W0
/-- the cells behind both constructors, in the order of their making -/
def zb_X1 : zbX := [(0, 9, [some (.inr (.inr 1)), some (.inr (.inr 12)), some (.inr (.inr 22)), some (.inr (.inr 43)), some (.inr (.inr 44)), some (.inr (.inr 60)), some (.inr (.inr 62)), some (.inr (.inr 64)), some (.inr (.inr 66)), some (.inr (.inr 68)), some (.inr (.inr 70)), some (.inr (.inr 71)), some (.inr (.inr 72)), some (.inl 0), some (.inl (-4)), some (.inl 0), some (.inl 1)], []),
  (0, 4, [some (.inr (.inr 2)), some (.inr (.inr 4)), some (.inl 0), some (.inl 0), some (.inl 0), some (.inl 0), some (.inl 0), some (.inl 0)], []),
  (0, 7, [some (.inr (.inr 3)), some (.inl 0)], []),
  (2, 320, [], []),
  (0, 8, [some (.inr (.inr 5)), some (.inr (.inr 6)), some (.inr (.inr 7)), some (.inr (.inr 8)), some (.inr (.inr 9)), some (.inr (.inr 10)), some (.inr (.inr 11)), some (.inl 0), some (.inl 0)], []),
  (1, 8, [], []),
  (1, 8, [], []),
  (1, 8, [], []),
  (1, 8, [], []),
  (1, 8, [], []),
  (1, 8, [], []),
  (1, 120, [], []),
  (0, 3, [some (.inr (.inr 13)), some (.inr (.inr 21)), some (.inl 1)], []),
  (0, 8, [some (.inr (.inr 14)), some (.inr (.inr 15)), some (.inr (.inr 16)), some (.inr (.inr 17)), some (.inr (.inr 18)), some (.inr (.inr 19)), some (.inr (.inr 20)), some (.inl 0), some (.inl 0)], []),
  (1, 8, [], []),
  (1, 8, [], []),
  (1, 8, [], []),
  (1, 8, [], []),
  (1, 8, [], []),
  (1, 8, [], []),
  (1, 120, [], []),
  (1, 6, [], [(5, (-4)), (4, (-4)), (3, (-4)), (2, (-4)), (1, (-4)), (0, (-4))]),
  (4, 2, [some (.inr (.inr 23)), some (.inr (.inr 33))], []),
  (0, 3, [some (.inr (.inr 24)), some (.inr (.inr 32)), some (.inl 1)], []),
  (0, 8, [some (.inr (.inr 25)), some (.inr (.inr 26)), some (.inr (.inr 27)), some (.inr (.inr 28)), some (.inr (.inr 29)), some (.inr (.inr 30)), some (.inr (.inr 31)), some (.inl 0), some (.inl 0)], []),
  (1, 8, [], []),
  (1, 8, [], []),
  (1, 8, [], []),
  (1, 8, [], []),
  (1, 8, [], []),
  (1, 8, [], []),
  (1, 120, [], []),
  (1, 6, [], [(5, (-4)), (4, (-4)), (3, (-4)), (2, (-4)), (1, (-4)), (0, (-4))]),
  (0, 3, [some (.inr (.inr 34)), some (.inr (.inr 42)), some (.inl 1)], []),
  (0, 8, [some (.inr (.inr 35)), some (.inr (.inr 36)), some (.inr (.inr 37)), some (.inr (.inr 38)), some (.inr (.inr 39)), some (.inr (.inr 40)), some (.inr (.inr 41)), some (.inl 0), some (.inl 0)], []),
  (1, 8, [], []),
  (1, 8, [], []),
  (1, 8, [], []),
  (1, 8, [], []),
  (1, 8, [], []),
  (1, 8, [], []),
  (1, 120, [], []),
  (1, 6, [], [(5, (-4)), (4, (-4)), (3, (-4)), (2, (-4)), (1, (-4)), (0, (-4))]),
  (3, 2, [], []),
  (0, 2, [some (.inr (.inr 45)), some (.inr (.inr 47)), some (.inr (.inr 55)), some (.inr (.inr 56)), some (.inr (.inr 57)), some (.inl 0), some (.inr (.inr 58)), some (.inr (.inr 59))], []),
  (0, 0, [some (.inr (.inr 46)), some (.inl 0)], []),
  (1, 8, [], []),
  (0, 8, [some (.inr (.inr 48)), some (.inr (.inr 49)), some (.inr (.inr 50)), some (.inr (.inr 51)), some (.inr (.inr 52)), some (.inr (.inr 53)), some (.inr (.inr 54)), some (.inl 0), some (.inl 0)], []),
  (1, 40, [], []),
  (1, 40, [], []),
  (1, 40, [], []),
  (1, 40, [], []),
  (1, 40, [], []),
  (1, 40, [], []),
  (1, 4800, [], []),
  (1, 40, [], []),
  (1, 40, [], []),
  (1, 240, [], []),
  (1, 6, [], []),
  (1, 6, [], []),
  (0, 1, [some (.inr (.inr 61)), some (.inl 0)], []),
  (2, 512, [], []),
  (0, 1, [some (.inr (.inr 63)), some (.inl 0)], []),
  (2, 512, [], []),
  (0, 5, [some (.inr (.inr 65)), some (.inl 0), some (.inl 0), some (.inl 0), some (.inl 0), some (.inl 0)], []),
  (1, 6, [], []),
  (0, 5, [some (.inr (.inr 67)), some (.inl 0), some (.inl 0), some (.inl 0), some (.inl 0), some (.inl 0)], []),
  (1, 6, [], []),
  (0, 5, [some (.inr (.inr 69)), some (.inl 0), some (.inl 0), some (.inl 0), some (.inl 0), some (.inl 0)], []),
  (1, 6, [], []),
  (1, 6, [], []),
  (1, 6, [], []),
  (5, 4, [some (.inr (.inr 73)), some (.inr (.inr 75)), some (.inr (.inr 77)), some (.inr (.inr 79))], []),
  (0, 6, [some (.inr (.inr 74)), some (.inl (-4)), some (.inl 0)], []),
  (1, 40, [], []),
  (0, 6, [some (.inr (.inr 76)), some (.inl (-4)), some (.inl 0)], []),
  (1, 40, [], []),
  (0, 6, [some (.inr (.inr 78)), some (.inl (-4)), some (.inl 0)], []),
  (1, 40, [], []),
  (0, 6, [some (.inr (.inr 80)), some (.inl (-4)), some (.inl 0)], []),
  (1, 40, [], []),
  (0, 10, [some (.inr (.inr 82)), some (.inr (.inr 83)), some (.inl 0), some (.inl 0), some (.inl 0), some (.inl 0), some (.inl 0), some (.inl 0), some (.inl 0), some (.inl 0), some (.inr (.inr 84)), some (.inr (.inr 85)), some (.inl 0), some (.inr (.inr 86)), some (.inl 0), some (.inl 0), some (.inl 0), some (.inr (.inr 87)), some (.inr (.inr 88)), some (.inr (.inr 89)), some (.inr (.inr 90)), some (.inr (.inr 91)), some (.inr (.inr 92)), some (.inr (.inr 93)), some (.inr (.inr 94)), some (.inr (.inr 95)), some (.inr (.inr 96)), some (.inl 0), some (.inr (.inr 97)), some (.inr (.inr 98)), some (.inr (.inr 99)), some (.inl 0), some (.inl 0), some (.inl 0), some (.inl 0), some (.inl 0), some (.inl 0), some (.inr (.inr 100)), some (.inr (.inr 101)), some (.inr (.inr 102)), some (.inr (.inr 103)), some (.inr (.inr 104)), some (.inr (.inr 105)), some (.inr (.inr 106)), some (.inr (.inr 107)), some (.inl 0)], []),
  (1, 708, [], []),
  (1, 320, [], []),
  (1, 11, [], [(10, 37), (9, 33), (8, 29), (7, 25), (6, 21), (5, 16), (4, 12), (3, 10), (2, 6), (1, 3), (0, 0)]),
  (1, 37, [], [(36, 101), (35, 114), (34, 111), (33, 109), (32, 101), (31, 109), (30, 97), (29, 115), (28, 115), (27, 115), (26, 101), (25, 108), (24, 115), (23, 117), (22, 108), (21, 112), (20, 107), (19, 99), (18, 111), (17, 108), (16, 98), (15, 112), (14, 111), (13, 116), (12, 115), (11, 102), (10, 105), (9, 111), (8, 116), (7, 111), (6, 103), (5, 121), (4, 97), (3, 115), (2, 116), (1, 101), (0, 115)]),
  (1, 8, [], []),
  (1, 40, [], []),
  (1, 240, [], []),
  (1, 40, [], []),
  (1, 40, [], []),
  (1, 40, [], []),
  (1, 40, [], []),
  (1, 40, [], []),
  (1, 4800, [], []),
  (1, 6, [], []),
  (1, 800, [], []),
  (1, 40, [], []),
  (1, 6, [], []),
  (1, 6, [], []),
  (1, 10, [], []),
  (1, 6, [], []),
  (1, 8, [], []),
  (3, 2, [], [(1, 0), (0, 0)]),
  (1, 4, [], [(3, (-4)), (2, (-4)), (1, (-4)), (0, (-4))]),
  (1, 4, [], [(3, 0), (2, 0), (1, 0), (0, 0)]),
  (1, 160, [], []),
  (1, 6, [], [])]
def zb_mid : Nat := 81
/-- a place's number among them -/
def zx_pmT : List Nat := [0, 1, 2, 3, 4, 5, 6, 7, 8, 9, 10, 11, 13, 14, 15, 16, 17, 18, 19, 20, 24, 25, 26, 27, 28, 29, 30, 31, 34, 35, 36, 37, 38, 39, 40, 41, 47, 48, 49, 50, 51, 52, 53, 54, 12, 21, 23, 32, 33, 42, 22, 43, 44, 45, 46, 55, 56, 57, 58, 59, 60, 61, 62, 63, 64, 65, 66, 67, 68, 69, 70, 71, 72, 73, 74, 75, 76, 77, 78, 79, 80, 81, 82, 83, 84, 85, 86, 87, 88, 89, 90, 91, 92, 93, 94, 95, 96, 97, 98, 99, 100, 101, 102, 103, 104, 105, 106, 107]
/-- the memory with which the law's loop begins: what isn't 0 -/
def zx_h0T : List (List (Nat × Int)) := [[(14, (-4)), (16, 1)],
  [],
  [],
  [],
  [],
  [],
  [],
  [],
  [],
  [],
  [],
  [],
  [],
  [],
  [],
  [],
  [],
  [],
  [],
  [],
  [],
  [],
  [],
  [],
  [],
  [],
  [],
  [],
  [],
  [],
  [],
  [],
  [],
  [],
  [],
  [],
  [],
  [],
  [],
  [],
  [],
  [],
  [],
  [],
  [(2, 1)],
  [(5, (-4)), (4, (-4)), (3, (-4)), (2, (-4)), (1, (-4)), (0, (-4))],
  [(2, 1)],
  [(5, (-4)), (4, (-4)), (3, (-4)), (2, (-4)), (1, (-4)), (0, (-4))],
  [(2, 1)],
  [(5, (-4)), (4, (-4)), (3, (-4)), (2, (-4)), (1, (-4)), (0, (-4))],
  [],
  [],
  [],
  [],
  [],
  [],
  [],
  [],
  [],
  [],
  [],
  [],
  [],
  [],
  [],
  [],
  [],
  [],
  [],
  [],
  [],
  [],
  [],
  [(1, (-4))],
  [],
  [(1, (-4))],
  [],
  [(1, (-4))],
  [],
  [(1, (-4))],
  [],
  [],
  [],
  [],
  [(10, 37), (9, 33), (8, 29), (7, 25), (6, 21), (5, 16), (4, 12), (3, 10), (2, 6), (1, 3), (0, 0)],
  [(36, 101), (35, 114), (34, 111), (33, 109), (32, 101), (31, 109), (30, 97), (29, 115), (28, 115), (27, 115), (26, 101), (25, 108), (24, 115), (23, 117), (22, 108), (21, 112), (20, 107), (19, 99), (18, 111), (17, 108), (16, 98), (15, 112), (14, 111), (13, 116), (12, 115), (11, 102), (10, 105), (9, 111), (8, 116), (7, 111), (6, 103), (5, 121), (4, 97), (3, 115), (2, 116), (1, 101), (0, 115)],
  [],
  [],
  [],
  [],
  [],
  [],
  [],
  [],
  [],
  [],
  [],
  [],
  [],
  [],
  [],
  [],
  [],
  [(1, 0), (0, 0)],
  [(3, (-4)), (2, (-4)), (1, (-4)), (0, (-4))],
  [(3, 0), (2, 0), (1, 0), (0, 0)],
  [],
  []]
def zb_beC (a b : zbC) : Bool := decide (a.1 = b.1) && decide (a.2.1 = b.2.1) && decide (a.2.2.1 = b.2.2.1) && decide (a.2.2.2 = b.2.2.2)
def zb_be : zbX → zbX → Bool
  | [], [] => true
  | a :: X, b :: Y => zb_beC a b && zb_be X Y
  | _, _ => false
def zb_beO (o : Option zbX) (Y : zbX) : Bool := match o with
  | some X => zb_be X Y
  | none => false
theorem zb_be_eq : ∀ (X Y : zbX), zb_be X Y = true → X = Y
  | [], [], _ => rfl
  | [], _ :: _, h => by cases h
  | _ :: _, [], h => by cases h
  | (a1, a2, a3, a4) :: X, (b1, b2, b3, b4) :: Y, h => by
    simp only [zb_be, zb_beC, Bool.and_eq_true, decide_eq_true_eq] at h
    obtain ⟨⟨⟨⟨h1, h2⟩, h3⟩, h4⟩, h5⟩ := h
    rw [h1, h2, h3, h4, zb_be_eq X Y h5]
theorem zb_beO_eq {o : Option zbX} {Y : zbX} (h : zb_beO o Y = true) : o = some Y := by
  cases o with
  | none => cases h
  | some X => rw [zb_be_eq X Y h]
theorem zb_run1 : zb_call 5 9 [.inr (.inr 0)] [(0, 9, zb_df 9, [])] = some (zb_X1.take zb_mid) := zb_beO_eq (by decide +kernel)
theorem zb_run2 : zb_call 5 10 [.inr (.inr zb_mid)] (zb_X1.take zb_mid ++ [(0, 10, zb_df 10, [])]) = some zb_X1 := zb_beO_eq (by decide +kernel)
def zx_pm (r : Nat) : Nat := zx_pmT.getD r 0
def zx_h0w (r : Nat) : List (Nat × Int) := zx_h0T.getD r []
/-- THE MEMORY at the beginning -/
def zx_h0 : zM := fun r k => if 0 ≤ k then zb_fn (zx_h0w r) k.toNat else 0
def zp_rf (r k : Nat) : Option zV := match zx_nt (zx_rf r) k with
  | none => none
  | some q => some (.inr (.inr (zx_pm q)))
def zp_fd (r k : Nat) : Option zV := match zx_nt (zx_rf r) k with
  | none => some (.inl (zb_fn (zx_h0w r) k))
  | some q => some (.inr (.inr (zx_pm q)))
/-- a place is a cell: checked by program -/
def zp_ok (r : Nat) : Bool := match zb_X1[zx_pm r]? with
  | some (t, n, fs, w) => decide (t = zx_tg r) && decide (t < 6) && (match t with
    | 0 => decide (n = zx_ci r) && decide (fs = (List.range (zx_n r)).map (zp_fd r))
    | 4 => decide (n = zx_n r) && decide (fs = (List.range (zx_n r)).map (zp_rf r))
    | 5 => decide (n = zx_n r) && decide (fs = (List.range (zx_n r)).map (zp_rf r))
    | _ => decide (n = zx_n r) && decide (w = zx_h0w r))
  | none => false
theorem zp_all : ∀ r, r < 108 → zp_ok r = true := by decide +kernel
theorem zp_inj : ∀ r, r < 108 → ∀ q, q < 108 → zx_pm r = zx_pm q → r = q := by decide +kernel
theorem zp_lt : ∀ r, r < 108 → zx_pm r < 108 := by decide +kernel
theorem zp_rfl : ∀ r, r < 108 → ∀ q ∈ zx_rf r, ∀ x, q = some x → x < 108 := by
  have : ∀ r, r < 108 → ∀ q ∈ zx_rf r, q.all (fun x => decide (x < 108)) = true := by decide +kernel
  intro r hr q hq x hx
  have h := this r hr q hq
  rw [hx] at h
  simpa using h
theorem zx_nt_mem : ∀ (l : List (Option Nat)) (k q : Nat), zx_nt l k = some q → some q ∈ l
  | [], _, _, h => by cases h
  | v :: l, 0, q, h => by
    simp only [zx_nt] at h
    rw [h]
    exact List.mem_cons_self
  | v :: l, k + 1, q, h => List.mem_cons_of_mem _ (zx_nt_mem l k q h)
theorem zx_h0_nat (r k : Nat) : zx_h0 r (k : Int) = zb_fn (zx_h0w r) k := by
  unfold zx_h0
  rw [if_pos (by omega)]
  rfl
/-- a place's cell is the cell of its number -/
theorem zp_el {ad adp : Nat → Nat} {cA : Nat → ClassId} (hp : ∀ r, r < 108 → adp r = ad (zx_pm r)) {r : Nat} (hr : r < 108) : ∃ c, zb_X1[zx_pm r]? = some c ∧ zb_el ad cA c = zc_el adp cA zx_h0 r := by
  have h := zp_all r hr
  unfold zp_ok at h
  split at h
  case h_2 => cases h
  rename_i t n fs w hc
  simp only [Bool.and_eq_true, decide_eq_true_eq] at h
  obtain ⟨⟨ht, h6⟩, h⟩ := h
  refine ⟨_, hc, ?_⟩
  have hrow : (fun k : Nat => Int32.ofInt (zx_h0 r (k : Int))) = fun k => Int32.ofInt (zb_fn (zx_h0w r) k) := by
    funext k
    rw [zx_h0_nat]
  have href : ∀ k, (zp_rf r k = none ∧ zx_nt (zx_rf r) k = none) ∨ ∃ q, zp_rf r k = some (.inr (.inr (zx_pm q))) ∧ zx_nt (zx_rf r) k = some q ∧ q < 108 := by
    intro k
    unfold zp_rf
    cases hq : zx_nt (zx_rf r) k with
    | none => exact Or.inl ⟨rfl, rfl⟩
    | some q => exact Or.inr ⟨q, rfl, rfl, zp_rfl r hr _ (zx_nt_mem _ _ _ hq) q rfl⟩
  have hre : ∀ n, zx_n r = n → zb_ref ad ((List.range n).map (zp_rf r)) = fun k => if k < n then (zx_nt (zx_rf r) k).map adp else none := by
    intro n hn
    funext k
    unfold zb_ref
    by_cases hk : k < n
    · rw [if_pos hk, List.getElem?_map, List.getElem?_range hk]
      rcases href k with ⟨h1, h2⟩ | ⟨q, h1, h2, h3⟩
      · simp [h1, h2]
      · simp [h1, h2, hp q h3]
    · rw [if_neg hk, List.getElem?_eq_none (by simp; omega)]
  have hout : ∀ k, (zx_tg r = 4 ∨ zx_tg r = 5) → ¬ k < zx_n r → zx_nt (zx_rf r) k = none := by
    intro k ht2 hk
    have hlen : ∀ r, r < 108 → (zx_tg r = 4 ∨ zx_tg r = 5) → (zx_rf r).length = zx_n r := by decide +kernel
    have hl := hlen r hr ht2
    have hno : ∀ (l : List (Option Nat)) (k : Nat), l.length ≤ k → zx_nt l k = none := by
      intro l
      induction l with
      | nil => intro k _; rfl
      | cons v l ih =>
        intro k hk
        cases k with
        | zero => simp at hk
        | succ k => exact ih k (by simpa using hk)
    exact hno _ _ (by omega)
  have hrefs : (zx_tg r = 4 ∨ zx_tg r = 5) → zb_ref ad ((List.range (zx_n r)).map (zp_rf r)) = fun k => (zx_nt (zx_rf r) k).map adp := by
    intro ht2
    rw [hre _ rfl]
    funext k
    by_cases hk : k < zx_n r
    · rw [if_pos hk]
    · rw [if_neg hk, hout k ht2 hk]
      rfl
  have hfd : ((List.range (zx_n r)).map (zp_fd r)).map (zb_val ad) = zc_fs adp zx_h0 r := by
    unfold zc_fs
    rw [List.map_map]
    apply List.map_congr_left
    intro k _
    show zb_val ad (zp_fd r k) = _
    unfold zp_fd
    cases hq : zx_nt (zx_rf r) k with
    | none =>
      show Value.int (Int32.ofInt _) = Value.int (Int32.ofInt _)
      rw [zx_h0_nat]
    | some q =>
      show Value.ref (ad (zx_pm q)) = Value.ref (adp q)
      rw [hp q (zp_rfl r hr _ (zx_nt_mem _ _ _ hq) q rfl)]
  have hcs : t = 0 ∨ t = 1 ∨ t = 2 ∨ t = 3 ∨ t = 4 ∨ t = 5 := by omega
  rcases hcs with rfl | rfl | rfl | rfl | rfl | rfl
  · simp only [Bool.and_eq_true, decide_eq_true_eq] at h
    rw [zc_el0 ht.symm, h.1, h.2]
    show Sum.inr (zx_ci r, _) = _
    rw [hfd]
  · simp only [Bool.and_eq_true, decide_eq_true_eq] at h
    rw [zc_el1 ht.symm, h.1, h.2, hrow]
    rfl
  · simp only [Bool.and_eq_true, decide_eq_true_eq] at h
    rw [zc_el2 ht.symm, h.1, h.2, hrow]
    rfl
  · simp only [Bool.and_eq_true, decide_eq_true_eq] at h
    rw [zc_el3 ht.symm, h.1, h.2, hrow]
    rfl
  · simp only [Bool.and_eq_true, decide_eq_true_eq] at h
    rw [zc_el4 ht.symm, h.1, h.2]
    show Sum.inl (cA 4, zx_n r, Sum.inr (Sum.inr (Sum.inr (Sum.inr (zb_ref ad _))))) = _
    rw [hrefs (Or.inl ht.symm)]
  · simp only [Bool.and_eq_true, decide_eq_true_eq] at h
    rw [zc_el5 ht.symm, h.1, h.2]
    show Sum.inl (cA 5, zx_n r, Sum.inr (Sum.inr (Sum.inr (Sum.inr (zb_ref ad _))))) = _
    rw [hrefs (Or.inr ht.symm)]
/-- the world that both constructors leave is that of the shadow's first memory -/
theorem zp_world {D : va_G} {ad adp : Nat → Nat} {cA : Nat → ClassId} {A : Nat → Prop} {H : Heap} (hp : ∀ r, r < 108 → adp r = ad (zx_pm r)) (hP : va_P D vwCl (zb_ws ad cA 0 zb_X1) H) (hD : va_D A (zb_ws ad cA 0 zb_X1)) : va_P D vwCl (zc_ws adp cA zx_h0) H ∧ va_D A (zc_ws adp cA zx_h0) := by
  have key : ∀ (k : Nat) (q : Nat × va_E), (zc_ws adp cA zx_h0)[k]? = some q → k < 108 ∧ (zb_ws ad cA 0 zb_X1)[zx_pm k]? = some q := by
    intro k q hq
    have hk := zc_at_inv hq
    rw [zc_at adp cA zx_h0 hk] at hq
    obtain ⟨c, h1, h2⟩ := zp_el (cA := cA) hp hk
    have := zb_ws_at (ad := ad) (cA := cA) zb_X1 0 (zx_pm k) h1
    refine ⟨hk, ?_⟩
    rw [this, Nat.zero_add, h2, ← hp k hk]
    exact hq
  refine ⟨fun k q hq => hP _ q (key k q hq).2, fun i j x y hi hj hxy => ?_, fun k q hq => hD.2 _ q (key k q hq).2⟩
  obtain ⟨i1, i2⟩ := key i x hi
  obtain ⟨j1, j2⟩ := key j y hj
  exact zp_inj i i1 j j1 (hD.1 _ _ x y i2 j2 hxy)
theorem zx_h0_M : zc_M zx_h0 := by
  have hw : ∀ r, r < 108 → (zx_h0w r).all (fun q => decide (-2147483648 ≤ q.2 ∧ q.2 < 2147483648)) = true := by decide +kernel
  have hf : ∀ (w : List (Nat × Int)) (k : Nat), w.all (fun q => decide (-2147483648 ≤ q.2 ∧ q.2 < 2147483648)) = true → zc_i (zb_fn w k) := by
    intro w
    induction w with
    | nil => intro k _; exact zc_i0
    | cons q w ih =>
      intro k h
      simp only [List.all_cons, Bool.and_eq_true, decide_eq_true_eq] at h
      obtain ⟨a, v⟩ := q
      simp only [zb_fn]
      by_cases c : k = a
      · rw [if_pos c]; exact h.1
      · rw [if_neg c]; exact ih k h.2
  intro r k
  unfold zx_h0
  by_cases c : 0 ≤ k
  · rw [if_pos c]
    rcases Nat.lt_or_ge r 108 with q | q
    · exact hf _ _ (hw r q)
    · have : zx_h0w r = [] := by
        unfold zx_h0w
        rw [List.getD_eq_getElem?_getD, List.getElem?_eq_none (by have : zx_h0T.length = 108 := by decide +kernel
                                                                  omega)]
        rfl
      rw [this]
      exact zc_i0
  · rw [if_neg c]; exact zc_i0
end
section
/-! THE LAW FROM ITS ENTRY -/
def zs_tms : List (String × Nat) := [("PointMaker$Reader", 98), ("PointMaker$Reader", 106), ("PointMaker$Reader", 108), ("PointMaker", 314), ("PointMaker", 316), ("PointMaker", 318), ("PointMaker", 320), ("PointMaker$Reader", 135), ("PointMaker$Reader", 137), ("PointMaker$Reader", 142), ("PointMaker$Letters", 75), ("PointMaker$Letters", 86), ("PointMaker$Letters", 88)]
def zs_tm (i : Nat) : Term := .string (zs_tms.getD i ("", 0)).1 (zs_tms.getD i ("", 0)).2
/-- where the start says that two texts are apart -/
def zs_np : List (List Nat) := [[0, 47, 55, 65, 76, 88, 101, 115, 130, 144, 178, 218, 238], [47, 0, 56, 66, 77, 89, 102, 116, 131, 145, 179, 219, 239], [55, 56, 0, 67, 78, 90, 103, 117, 132, 146, 180, 220, 240], [65, 66, 67, 0, 79, 91, 104, 118, 133, 147, 181, 221, 241], [76, 77, 78, 79, 0, 92, 105, 119, 134, 148, 182, 222, 242], [88, 89, 90, 91, 92, 0, 106, 120, 135, 149, 183, 223, 243], [101, 102, 103, 104, 105, 106, 0, 121, 136, 150, 184, 224, 244], [115, 116, 117, 118, 119, 120, 121, 0, 137, 151, 185, 225, 245], [130, 131, 132, 133, 134, 135, 136, 137, 0, 152, 186, 226, 246], [144, 145, 146, 147, 148, 149, 150, 151, 152, 0, 187, 227, 247], [178, 179, 180, 181, 182, 183, 184, 185, 186, 187, 0, 229, 249], [218, 219, 220, 221, 222, 223, 224, 225, 226, 227, 229, 0, 251], [238, 239, 240, 241, 242, 243, 244, 245, 246, 247, 249, 251, 0]]
abbrev zs_F : List Cond := flatC (Jvm.Cond.and given_1 narrow_1)
def zs_nv (i : Nat) : Term := .field (zs_tm i) "java/lang/String" "value" "[B"
theorem zs_1 : ∀ i, i < 13 → Cond.exactly (zs_tm i) "java/lang/String" ∈ zs_F := by decide +kernel
theorem zs_2 : ∀ i, i < 13 → Cond.eq (.field (zs_tm i) "java/lang/String" "coder" "B") (.int 0) ∈ zs_F := by decide +kernel
theorem zs_3 : ∀ i, i < 13 → Cond.arrayOf (zs_nv i) .byte ∈ zs_F := by decide +kernel
theorem zs_4 : ∀ i, i < 13 → Cond.eq (.length (zs_nv i)) (.int (Int32.ofNat (zc_lS.getD i 0))) ∈ zs_F := by decide +kernel
theorem zs_5 : ∀ i, i < 13 → ∀ j, j < zc_lS.getD i 0 → Cond.eq (.elem (zs_nv i) (.int (Int32.ofNat j))) (.int ((zc_bS.getD i []).getD j 0)) ∈ zs_F := by decide +kernel
def zs_n1 (i j : Nat) : Bool := match zs_F[(zs_np.getD i []).getD j 0]? with
  | some (Cond.not (Cond.eq (.string a k) (.string b m))) => (decide (a = (zs_tms.getD i ("", 0)).1) && decide (k = (zs_tms.getD i ("", 0)).2) && decide (b = (zs_tms.getD j ("", 0)).1) && decide (m = (zs_tms.getD j ("", 0)).2)) || (decide (a = (zs_tms.getD j ("", 0)).1) && decide (k = (zs_tms.getD j ("", 0)).2) && decide (b = (zs_tms.getD i ("", 0)).1) && decide (m = (zs_tms.getD i ("", 0)).2))
  | _ => false
theorem zs_n2 : ∀ i, i < 13 → ∀ j, j < 13 → i ≠ j → zs_n1 i j = true := by decide +kernel
theorem zs_6 (i : Nat) (hi : i < 13) (j : Nat) (hj : j < 13) (hij : i ≠ j) : (Cond.not (Cond.eq (zs_tm i) (zs_tm j)) ∈ zs_F ∨ Cond.not (Cond.eq (zs_tm j) (zs_tm i)) ∈ zs_F) := by
  have h := zs_n2 i hi j hj hij
  unfold zs_n1 at h
  split at h
  case h_2 => cases h
  rename_i a k b m hk
  simp only [Bool.or_eq_true, Bool.and_eq_true, decide_eq_true_eq] at h
  have hm := List.mem_of_getElem? hk
  rcases h with ⟨⟨⟨h1, h2⟩, h3⟩, h4⟩ | ⟨⟨⟨h1, h2⟩, h3⟩, h4⟩
  · rw [h1, h2, h3, h4] at hm
    exact Or.inl hm
  · rw [h1, h2, h3, h4] at hm
    exact Or.inr hm
theorem zs_7 : Cond.eq (.static "java/lang/String" "COMPACT_STRINGS" "Z") (.int 1) ∈ zs_F ∧ Cond.isRef (.static "jdk/internal/util/Preconditions" "SIOOBE_FORMATTER" "Ljava/util/function/BiFunction;") ∈ zs_F := by decide +kernel
theorem zs_8 : Cond.laysStatic "java/lang/String" "COMPACT_STRINGS" "Z" ∈ lw_tbl ∧ Cond.laysStatic "jdk/internal/util/Preconditions" "SIOOBE_FORMATTER" "Ljava/util/function/BiFunction;" ∈ lw_tbl ∧ Cond.initialized "java/lang/String" ∈ lw_tbl ∧ Cond.initialized "jdk/internal/util/Preconditions" ∈ lw_tbl := by decide +kernel
theorem zs_9 : ∀ q ∈ zc_sr, Cond.stringRef q.1 q.2.1 q.2.2.1 ∈ lw_tbl ∧ q.2.2.2 < 13 ∧ (Term.string q.1 q.2.1 = zs_tm q.2.2.2 ∨ Cond.eq (zs_tm q.2.2.2) (.string q.1 q.2.1) ∈ zs_F ∨ Cond.eq (.string q.1 q.2.1) (zs_tm q.2.2.2) ∈ zs_F) := by decide +kernel
theorem zs_10 : Cond.arrayClass .int ∈ lw_tbl ∧ Cond.arrayClass .byte ∈ lw_tbl ∧ Cond.arrayClass .boolean ∈ lw_tbl ∧ Cond.arrayOver (.object "PointMaker$Program") ∈ lw_tbl ∧ Cond.arrayOver (.object "PointMaker$Sheet") ∈ lw_tbl := by decide +kernel
theorem zs_X {args : Array Value} {s : State} (hts : ∀ w ∈ lw_tbl, w.before args s = true) (hgv : (Jvm.Cond.and given_1 narrow_1).before args s = true) : ∃ adK adV : Nat → Nat, ∀ ad : Nat → Nat, (∀ i, i < 13 → ad (1000 + i) = adK i) → zc_X ad adV (fun q => s.heap.size ≤ q) s s.heap := by
  have hs := flat_of_before _ hgv
  have hA : ∀ a : Nat, a < s.heap.size → ¬ (fun q => s.heap.size ≤ q) a := fun a h => Nat.not_le.mpr h
  have hne : ∀ i j : Nat, i < 13 → j < 13 → i ≠ j → (Cond.not (Cond.eq (zs_tm i) (zs_tm j))).before args s = true ∨ (Cond.not (Cond.eq (zs_tm j) (zs_tm i))).before args s = true := by
    intro i j hi hj hij
    rcases zs_6 i hi j hj hij with h | h
    · exact Or.inl (hs _ h)
    · exact Or.inr (hs _ h)
  obtain ⟨adK, adV, hS, hK⟩ := vk_Sof (args := args) (s := s) (N := 13) (tm := zs_tm) (len := zc_lS) (byt := zc_bS) (A := fun q => s.heap.size ≤ q) (by decide +kernel) (fun i hi => hs _ (zs_1 i hi)) (fun i hi => hs _ (zs_2 i hi)) (fun i hi => hs _ (zs_3 i hi)) (fun i hi => hs _ (zs_4 i hi)) (fun i hi j hj => hs _ (zs_5 i hi j hj)) hne hA
  refine ⟨adK, adV, fun ad had => ⟨fun w hw => ?_, fun q hq => ?_, ?_, ?_, ?_⟩⟩
  · have hw2 := List.mem_filter.mp hw
    have hn := hw2.2
    refine va_Nw.of ?_ (hts w hw2.1)
    cases w <;> first | rfl | (simp [zc_isN] at hn)
  · obtain ⟨h1, h2, h3⟩ := zs_9 q hq
    have hev := hK _ h2
    refine vk_R.of (hts _ h1) ?_
    rw [had _ h2]
    rcases h3 with h3 | h3 | h3
    · rw [h3]
      exact hev
    · obtain ⟨w, e1, e2⟩ := Cond.eq_one (show (Cond.eq (zs_tm q.2.2.2) (.string q.1 q.2.1)).holds args s none s [] = true from hs _ h3)
      rw [hev] at e1
      cases e1
      exact e2
    · obtain ⟨w, e1, e2⟩ := Cond.eq_one (show (Cond.eq (.string q.1 q.2.1) (zs_tm q.2.2.2)).holds args s none s [] = true from hs _ h3)
      rw [hev] at e2
      cases e2
      exact e1
  · refine ⟨fun i hi => ?_, fun i j hi hj hij => ?_⟩
    · have := hS.1 i hi
      show va_O _ (ad (1000 + i)) _ _ _ ∧ va_OF _ _ _ _ (ad (1000 + i)) _ _ _ ∧ va_OF _ _ _ _ (ad (1000 + i)) _ _ _ ∧ _
      rw [had i hi]
      exact this
    · refine hS.2 i j hi hj ?_
      have hij : ad (1000 + i) = ad (1000 + j) := hij
      rw [had i hi, had j hj] at hij
      exact hij
  · exact va_Zof (hts _ zs_8.1) (hts _ zs_8.2.2.1) (va_eqi (hs _ zs_7.1)) hA
  · rcases va_Zqof (hts _ zs_8.2.1) (hts _ zs_8.2.2.2) (hs _ zs_7.2) hA with h | ⟨t, h⟩
    · exact ⟨_, Or.inl rfl, h⟩
    · exact ⟨_, Or.inr ⟨t, rfl⟩, h⟩
theorem zs_11 : Cond.instantiable RX0 2 ∈ lw_tbl ∧ Cond.instantiable RX1 2 ∈ lw_tbl ∧ Cond.instantiable RX2 8 ∈ lw_tbl ∧ Cond.instantiable RX3 3 ∈ lw_tbl ∧ Cond.instantiable RX4 8 ∈ lw_tbl ∧ Cond.instantiable RX5 6 ∈ lw_tbl ∧ Cond.instantiable RX6 3 ∈ lw_tbl ∧ Cond.instantiable RX7 2 ∈ lw_tbl ∧ Cond.instantiable RX8 9 ∈ lw_tbl ∧ Cond.instantiable RX9 17 ∈ lw_tbl ∧ Cond.instantiable RX10 46 ∈ lw_tbl := by decide +kernel
/-- the classes, the rows' classes, as the tables have them -/
theorem zs_K {args : Array Value} {s : State} (hts : ∀ w ∈ lw_tbl, w.before args s = true) : ∃ (D : va_G) (cA : Nat → ClassId), va_K D vwCl (zc_tys cA) s := by
  obtain ⟨c0, i0, hk0⟩ := u_known (C := RX0) (T := TX0) (N := 2) (n := 2) hts (fun w hw => (zc_u0 w hw).1) (hts _ zs_11.1)
  obtain ⟨c1, i1, hk1⟩ := u_known (C := RX1) (T := TX1) (N := 2) (n := 2) hts (fun w hw => (zc_u1 w hw).1) (hts _ zs_11.2.1)
  obtain ⟨c2, i2, hk2⟩ := u_known (C := RX2) (T := TX2) (N := 8) (n := 8) hts (fun w hw => (zc_u2 w hw).1) (hts _ zs_11.2.2.1)
  obtain ⟨c3, i3, hk3⟩ := u_known (C := RX3) (T := TX3) (N := 3) (n := 3) hts (fun w hw => (zc_u3 w hw).1) (hts _ zs_11.2.2.2.1)
  obtain ⟨c4, i4, hk4⟩ := u_known (C := RX4) (T := TX4) (N := 8) (n := 8) hts (fun w hw => (zc_u4 w hw).1) (hts _ zs_11.2.2.2.2.1)
  obtain ⟨c5, i5, hk5⟩ := u_known (C := RX5) (T := TX5) (N := 6) (n := 6) hts (fun w hw => (zc_u5 w hw).1) (hts _ zs_11.2.2.2.2.2.1)
  obtain ⟨c6, i6, hk6⟩ := u_known (C := RX6) (T := TX6) (N := 3) (n := 3) hts (fun w hw => (zc_u6 w hw).1) (hts _ zs_11.2.2.2.2.2.2.1)
  obtain ⟨c7, i7, hk7⟩ := u_known (C := RX7) (T := TX7) (N := 2) (n := 2) hts (fun w hw => (zc_u7 w hw).1) (hts _ zs_11.2.2.2.2.2.2.2.1)
  obtain ⟨c8, i8, hk8⟩ := u_known (C := RX8) (T := TX8) (N := 9) (n := 9) hts (fun w hw => (zc_u8 w hw).1) (hts _ zs_11.2.2.2.2.2.2.2.2.1)
  obtain ⟨c9, i9, hk9⟩ := u_known (C := RX9) (T := TX9) (N := 17) (n := 17) hts (fun w hw => (zc_u9 w hw).1) (hts _ zs_11.2.2.2.2.2.2.2.2.2.1)
  obtain ⟨c10, i10, hk10⟩ := u_known (C := RX10) (T := TX10) (N := 46) (n := 46) hts (fun w hw => (zc_u10 w hw).1) (hts _ zs_11.2.2.2.2.2.2.2.2.2.2)
  obtain ⟨a1, b1, d1, e1, f1, g1⟩ := Cond.arrayClass_spec (show (Cond.arrayClass .int).holds args s none s [] = true from hts _ zs_10.1)
  obtain ⟨a2, b2, d2, e2, f2, g2⟩ := Cond.arrayClass_spec (show (Cond.arrayClass .byte).holds args s none s [] = true from hts _ zs_10.2.1)
  obtain ⟨a3, b3, d3, e3, f3, g3⟩ := Cond.arrayClass_spec (show (Cond.arrayClass .boolean).holds args s none s [] = true from hts _ zs_10.2.2.1)
  obtain ⟨q4, a4, b4, e4, d4, f4, g4, h4⟩ := Cond.arrayOver_spec (show (Cond.arrayOver (.object "PointMaker$Program")).holds args s none s [] = true from hts _ zs_10.2.2.2.1)
  obtain ⟨q5, a5, b5, e5, d5, f5, g5, h5⟩ := Cond.arrayOver_spec (show (Cond.arrayOver (.object "PointMaker$Sheet")).holds args s none s [] = true from hts _ zs_10.2.2.2.2)
  refine ⟨(fun k => if k = 0 then c0 else if k = 1 then c1 else if k = 2 then c2 else if k = 3 then c3 else if k = 4 then c4 else if k = 5 then c5 else if k = 6 then c6 else if k = 7 then c7 else if k = 8 then c8 else if k = 9 then c9 else c10, fun k => if k = 0 then i0 else if k = 1 then i1 else if k = 2 then i2 else if k = 3 then i3 else if k = 4 then i4 else if k = 5 then i5 else if k = 6 then i6 else if k = 7 then i7 else if k = 8 then i8 else if k = 9 then i9 else i10), fun k => if k = 2 then a2 else if k = 3 then a3 else if k = 4 then a4 else if k = 5 then a5 else a1, ?_, ?_⟩
  · intro k q hq
    match k, hq with
    | 0, hq => cases hq; exact hk0
    | 1, hq => cases hq; exact hk1
    | 2, hq => cases hq; exact hk2
    | 3, hq => cases hq; exact hk3
    | 4, hq => cases hq; exact hk4
    | 5, hq => cases hq; exact hk5
    | 6, hq => cases hq; exact hk6
    | 7, hq => cases hq; exact hk7
    | 8, hq => cases hq; exact hk8
    | 9, hq => cases hq; exact hk9
    | 10, hq => cases hq; exact hk10
    | k + 11, hq => simp at hq
  · intro k q hq
    match k, hq with
    | 0, hq => cases hq; exact ⟨fun n z => ⟨fun k h => (by cases h), b1, f1, d1, g1⟩, e1⟩
    | 1, hq => cases hq; exact ⟨fun n z => ⟨fun k h => (by cases h), b1, f1, d1, g1⟩, e1⟩
    | 2, hq => cases hq; exact ⟨fun n z => ⟨fun k h => (by cases h), b2, f2, d2, g2⟩, e2⟩
    | 3, hq => cases hq; exact ⟨fun n z => ⟨fun k h => (by cases h), b3, f3, d3, g3⟩, e3⟩
    | 4, hq => cases hq; exact ⟨fun n z => ⟨fun k h => (by cases h), b4, f4, q4, g4⟩, b4, q4, f4, g4, e4, h4⟩
    | 5, hq => cases hq; exact ⟨fun n z => ⟨fun k h => (by cases h), b5, f5, q5, g5⟩, b5, q5, f5, g5, e5, h5⟩
    | k + 6, hq => simp [zc_tys] at hq
theorem dl_0 : decode code 0 = .ok (.new 7, 3) := by decide +kernel
theorem dl_3 : decode code 3 = .ok (.dup, 1) := by decide +kernel
theorem dl_4 : decode code 4 = .ok (.invokespecial 9, 3) := by decide +kernel
theorem dl_7 : decode code 7 = .ok (.astore_n 1, 1) := by decide +kernel
theorem dl_8 : decode code 8 = .ok (.new 10, 3) := by decide +kernel
theorem dl_11 : decode code 11 = .ok (.dup, 1) := by decide +kernel
theorem dl_12 : decode code 12 = .ok (.invokespecial 12, 3) := by decide +kernel
theorem dl_15 : decode code 15 = .ok (.astore_n 2, 1) := by decide +kernel
theorem dl_16 : decode code 16 = .ok (.iconst 0, 1) := by decide +kernel
theorem dl_17 : decode code 17 = .ok (.istore_n 3, 1) := by decide +kernel
theorem zs_12 : zk_w 107 (.classLink R_law 7 RX9) = true ∧ zk_w 997 (.classLink R_law 10 RX10) = true ∧ zk_w 109 (.methodLink R_law 9 (zb_y 9)) = true ∧ zk_w 999 (.methodLink R_law 12 (zb_y 10)) = true := by decide +kernel
theorem zs_13 : Cond.initialized RX9 ∈ lw_tbl ∧ Cond.initialized RX10 ∈ lw_tbl := by decide +kernel
def zs_c (a : Nat) : Bool :=
  zk_w (zb_mt a).2.2.2.2.2.2.2.1 (.code (zb_y a) (zb_by a) (zb_ml a) none) && zk_w (zb_mt a).2.2.2.2.2.2.2.2.1 (.instanceMethod (zb_y a)) && zk_w (zb_mt a).2.2.2.2.2.2.2.2.2.2 (.initialized (zb_own a)) &&
  decide ((zb_rm a).frames + 1 ≤ room_1.frames) && decide (8 + (zb_ml a + 11) + (zb_rm a).locals ≤ room_1.locals) && decide ((parseMethodDescriptor (zb_y a).desc).map (fun d => d.parameters.length) = some 0) && decide (zb_own a ≠ "java/lang/invoke/MethodHandle") && decide (zb_own a ≠ "java/lang/invoke/VarHandle") && decide ((zb_y a).name = "<init>")
theorem zs_14 : zs_c 9 = true ∧ zs_c 10 = true := by decide +kernel
theorem zs_15 : zb_mc 9 = 83 ∨ zb_mc 9 + zb_mc 10 + 2 ≤ 600000 := by decide +kernel
theorem zs_16 : 1 + zb_mc 9 + 1 + zb_mc 10 ≤ 600000 ∧ 17 + zb_ms 9 + 46 + zb_ms 10 ≤ 7302250 := by decide +kernel
section ZG
variable {p : Program} {l : Launch} {e : Env} {s : State} {m : MethodId} {below : List Frame} {meth : Method} {c : Code} {D : va_G} {cA : Nat → ClassId} {b : Nat} {Q : State → Prop} {cells slots : Nat}
/-- the law calls a constructor -/
theorem zs_call {a idx kw pc r : Nat} {ad : Nat → Nat} {X Y : zbX} {H : Heap} {locs : List Loc} {ls : Array Slot} {rest : List Value} (hx : p.tables.exec = Jvm.exec) (hb : c.code = code) (hml : c.maxLocals = 4) (hown : s.vm.findClass R_law = some m.cls) (hts : ∀ w ∈ lw_tbl, w.before #[Value.ref b] s = true) (hK : va_K D vwCl (zc_tys cA) s) (hX : zb_X s) (hP : va_P D vwCl (zb_ws ad cA 0 X) H) (hD : va_D (fun q => s.heap.size ≤ q) (zb_ws ad cA 0 X)) (hS : va_S (fun q => s.heap.size ≤ q) s.heap H locs) (hls : ls.size = 4) (hwf : zb_wf X) (hr : r < X.length) (hrun : zb_call 5 a [.inr (.inr r)] X = some Y) (hc : zs_c a = true) (hw : zk_w kw (.methodLink R_law idx (zb_y a)) = true) (hrest : (rest.map fun v : Value => v.category).sum ≤ 8) (hcl : cells + zb_mc a ≤ room_1.cells) (hsl : slots + zb_ms a ≤ room_1.slots) (hd : decode code pc = .ok (.invokespecial idx, 3))
    (kk : ∀ (ad2 : Nat → Nat) (H1 : Heap) (locs1 : List Loc), (∀ k, k < X.length → ad2 k = ad k) → zb_wf Y → va_P D vwCl (zb_ws ad2 cA 0 Y) H1 → va_D (fun q => s.heap.size ≤ q) (zb_ws ad2 cA 0 Y) → va_S (fun q => s.heap.size ≤ q) s.heap H1 locs1 → W p l e room_1 s m #[Value.ref b] below meth c H1 locs1 (cells + zb_mc a) (slots + zb_ms a) Q (F0 m (pc + 3) ls rest)) : W p l e room_1 s m #[Value.ref b] below meth c H locs cells slots Q (F0 m pc ls (Value.ref (ad r) :: rest)) := by
  have hM := zd_call 5 a [.inr (.inr r)] X Y hrun (fun v hv => by rw [List.mem_singleton.mp hv]; exact hr) hwf l D ad cA (fun q => s.heap.size ≤ q)
  have htb : ∀ w ∈ zc_tb, w.before #[Value.ref b] s = true := fun w hw => hts w (List.mem_filter.mp hw).1
  simp only [zs_c, Bool.and_eq_true, decide_eq_true_eq] at hc
  obtain ⟨⟨⟨⟨⟨⟨⟨⟨k1, k2⟩, k4⟩, k5⟩, k6⟩, k7⟩, k8⟩, k9⟩, k10⟩ := hc
  have hws : ∀ w ∈ zb_wsj a, w ∈ zc_tb := by
    intro w hw
    rcases List.mem_cons.mp hw with rfl | hw
    · exact zk_w_in k1
    · exact hw
  have hp : PreS s H (va_Pc ([Sum.inr (Sum.inr r)].map (zc_v ad)) (zb_pre D ad cA (fun q => s.heap.size ≤ q) X)) [Value.ref (ad r)] := ⟨zb_blind, fun U hU hW => ⟨rfl, by rw [hU]; exact hP, va_K.moved hW.alike hK, hD, hX.warm hW, fun q hq => by rw [hU] at hq; exact Nat.le_trans hS.1 hq⟩⟩
  have hrn := va_runI (l := l) (e := e) (p := p) (R := room_1) (below := below) (meth := meth) (locs := locs) (cells := cells) (slots := slots) (g := F0 m pc ls (Value.ref (ad r) :: rest)) (As := []) (rest := rest) (y := zb_y a) (bytes := zb_by a) (maxL := zb_ml a) (ws := zb_wsj a) (rm := zb_rm a) (Ts := zc_tb) (own := R_law) (n := 0) (nL := 4) ⟨hx, hb, hml, hown, htb⟩ hM ⟨callB_of 0 htb (zc_goodIn hws) rfl rfl rfl (htb _ (zk_w_in k4)) (htb _ (zk_w_in hw)) ⟨k8, k9, k7⟩ ⟨k5, k6⟩, k10, htb _ (zk_w_in k2)⟩ hp rfl rfl hls rfl (by show 2 * 0 + _ ≤ 8; omega) hd ⟨hcl, hsl⟩
  intro T hT XX
  obtain ⟨v, st₀, t, T', Lc, h0, X', hL, e1, e2, ⟨⟨hv, ad2, hp1, hp2, hp3, hp4, hp5, hp6⟩, hz, hkk⟩, st⟩ := hrn T hT XX
  cases hv
  rw [h0] at hz hkk
  obtain ⟨t2, a1, b1⟩ := kk ad2 T'.heap (locs ++ Lc) hp1 hp2 (by rw [e1]; exact hp4) hp6 ⟨Nat.le_trans hS.1 (by rw [e1]; exact hz), fun q h1 h2 => by rw [e1, hkk q (Nat.lt_of_lt_of_le h1 hS.1) h2]; exact hS.2.1 q h1 h2, fun q hq => by
      rcases List.mem_append.mp hq with h | h
      · exact hS.2.2 q h
      · exact hL q h⟩ T' rfl X'
  exact ⟨t2, st t2 a1, b1⟩
end ZG
set_option maxHeartbeats 4000000 in
set_option maxRecDepth 100000 in
/-- THE LAW, from its entry, over any invariant that holds at first and that every pair of calls keeps -/
theorem zw_start {Inv : zM → Prop} (hI : Inv zx_h0) (hp : ∀ q ∈ zl_cases, zPair Inv q.2.2.1 q.2.2.2 q.2.1) {p : Program} {e : Env} {s : State} {m : MethodId} {below : List Frame} {meth : Method} {c : Code} (l : Launch) (hflags : l.flags = flags0) {b L : Nat} {xs : Nat → Int32} (hL : L ≤ 2560) (C0 : lw_At p s m meth c b L xs) : W p l e room_1 s m #[Value.ref b] below meth c s.heap [] 0 0 (lw_Z below #[Value.ref b] s) (entryFrame m ([Value.ref b] : List Value).toArray 4) := by
  obtain ⟨hx, hb, hr, hml, hown, hts, hXs, hbl, hlocks, hgv⟩ := id C0
  obtain ⟨adK, adV, hZ⟩ := zs_X hts hgv
  obtain ⟨D, cA, hK⟩ := zs_K hts
  have hA : ∀ q : Nat, s.heap.size ≤ q → (fun q : Nat => s.heap.size ≤ q) q := fun _ h => h
  have hzX : zb_X s := by
    have h0 := (hZ (fun r => adK (r - 1000)) (fun i _ => by show adK (1000 + i - 1000) = _; rw [Nat.add_sub_cancel_left])).1
    exact ⟨h0, va_AO.of (hts _ zs_10.2.2.2.1), va_AO.of (hts _ zs_10.2.2.2.2)⟩
  have hw12 := zs_12
  have hS0 : va_S (fun q : Nat => s.heap.size ≤ q) s.heap s.heap [] := va_S.rf
  have hP0 : va_P D vwCl [] s.heap := fun k q h => by simp at h
  have hD0 : va_D (fun q : Nat => s.heap.size ≤ q) [] := ⟨fun i j p q h => by simp at h, fun k q h => by simp at h⟩
  have hl := lv_entry ([.ref b]) (n := 4) (Nat.le_of_ble_eq_true rfl)
  rw [lg_entry_eq]
  generalize (lg_sl ([.ref b]) ++ List.replicate (4 - (lg_sl ([.ref b])).length) Slot.unset).toArray = ls at hl ⊢
  have hl : lv_has ls 4 [(0, .ref b)] := hl
  have htb : ∀ {k : Nat} {w : Cond}, zk_w k w = true → w.before #[Value.ref b] s = true := fun h => hts _ (List.mem_filter.mp (zk_w_in h)).1
  obtain ⟨ty9, hty9, hdf9⟩ := zb_dv 9 (by decide) (RX9, TX9, 17) rfl
  obtain ⟨ty10, hty10, hdf10⟩ := zb_dv 10 (by decide) (RX10, TX10, 46) rfl
  refine va_new (fs := (zb_df 9).map (zb_val id)) (ci := 9) (C := RX9) (T := TX9) (N := 17) hx hb hts (fun w hw => (zc_u9 w hw).1) ty9 hty9 hown (htb hw12.1) (hts _ zs_11.2.2.2.2.2.2.2.2.2.1) (hts _ zs_13.1) hK hP0 hD0 hS0 hA rfl (hdf9 id) (Nat.le_of_ble_eq_true rfl) (Nat.le_of_ble_eq_true rfl) dl_0 (fun q0 H hP hD hS => ?_)
  have eqf : (zb_df 9).map (zb_val id) = (zb_df 9).map (zb_val (fun _ => q0)) := rfl
  rw [eqf] at hP hD
  refine lv_dup hx hb dl_3 rfl ?_
  have h16 := zs_16
  refine zs_call (a := 9) (r := 0) (ad := fun _ => q0) (X := [(0, 9, zb_df 9, [])]) (rest := [Value.ref q0]) hx hb hml hown hts hK hzX hP hD hS hl.1 (by
    intro cc hcc v hv
    rw [List.mem_singleton.mp hcc] at hv
    have h0 : ∀ o ∈ zb_df 9, o = none ∨ o = some (.inl 0) := by decide +kernel
    rcases h0 _ hv with h | h
    · cases h
    · cases h
      exact zc_i0) (by decide) zb_run1 zs_14.1 hw12.2.2.1 (Nat.le_of_ble_eq_true rfl) (by show 1 + _ ≤ 600000; omega) (by show 17 + _ ≤ 7302250; omega) dl_4 (fun ad2 H1 locs1 had hwf hP hD hS => ?_)
  refine lv_astore_n (lv' := [(1, .ref q0), (0, .ref b)]) hx hb dl_7 rfl hl (by decide) rfl (fun ls hl => ?_)
  have hlen : (zb_X1.take zb_mid).length = zb_mid := by decide +kernel
  refine va_new (fs := (zb_df 10).map (zb_val ad2)) (ci := 10) (C := RX10) (T := TX10) (N := 46) hx hb hts (fun w hw => (zc_u10 w hw).1) ty10 hty10 hown (htb hw12.2.1) (hts _ zs_11.2.2.2.2.2.2.2.2.2.2) (hts _ zs_13.2) hK hP hD hS hA rfl (hdf10 ad2) (by show 0 + 1 + _ + 1 ≤ 600000; omega) (by show 0 + 17 + _ + 46 ≤ 7302250; omega) dl_8 (fun q1 H2 hP hD hS => ?_)
  have hokC : zb_okC (zb_X1.take zb_mid).length (0, 10, zb_df 10, []) := by
    intro v hv
    have h0 : ∀ o ∈ zb_df 10, o = none ∨ o = some (.inl 0) := by decide +kernel
    rcases h0 _ hv with h | h
    · cases h
    · cases h
      exact zc_i0
  have he : ∀ r, r < (zb_X1.take zb_mid).length → va_up ad2 zb_mid q1 r = ad2 r := fun r hr => va_up_ne _ _ (by rw [hlen] at hr; omega)
  have e1 : zb_ws (va_up ad2 zb_mid q1) cA 0 (zb_X1.take zb_mid ++ [(0, 10, zb_df 10, [])]) = zb_ws ad2 cA 0 (zb_X1.take zb_mid) ++ [(q1, .inr (10, (zb_df 10).map (zb_val ad2)))] := by
    rw [zb_ws_app, zb_ws_ext he _ 0 hwf (by omega), zb_el_ext he hokC, Nat.zero_add, hlen, va_up_self]
    rfl
  rw [← e1] at hP hD
  refine lv_dup hx hb dl_11 rfl ?_
  have hq1 : va_up ad2 zb_mid q1 zb_mid = q1 := va_up_self _ _ _
  have hq0 : va_up ad2 zb_mid q1 0 = q0 := by
    rw [he 0 (by rw [hlen]; decide)]
    exact had 0 (by decide)
  have call2 := zs_call (l := l) (e := e) (below := below) (p := p) (m := m) (meth := meth) (c := c) (Q := lw_Z below #[Value.ref b] s) (cells := 0 + 1 + zb_mc 9 + 1) (slots := 0 + 17 + zb_ms 9 + 46) (a := 10) (r := zb_mid) (ad := va_up ad2 zb_mid q1) (X := zb_X1.take zb_mid ++ [(0, 10, zb_df 10, [])]) (rest := [Value.ref q1]) (pc := 12) (ls := ls) hx hb hml hown hts hK hzX hP hD hS hl.1 (zb_wf_app hwf (fun v hv => (hokC v hv).mono (by omega))) (by rw [List.length_append, hlen]; decide) zb_run2 zs_14.2 hw12.2.2.2 (Nat.le_of_ble_eq_true rfl) (by show 0 + 1 + _ + 1 + _ ≤ 600000; omega) (by show 0 + 17 + _ + 46 + _ ≤ 7302250; omega) dl_12 (fun ad3 H3 locs3 had3 hwf3 hP hD hS => ?_)
  · rw [hq1] at call2
    exact call2
  · have g0 : ad3 0 = q0 := by rw [had3 0 (by rw [List.length_append, hlen]; decide), hq0]
    have g1 : ad3 zb_mid = q1 := by rw [had3 zb_mid (by rw [List.length_append, hlen]; decide), hq1]
    refine lv_astore_n (lv' := [(2, .ref q1), (1, .ref q0), (0, .ref b)]) hx hb dl_15 rfl hl (by decide) rfl (fun ls hl => ?_)
    refine lv_iconst (v := 0) hx hb dl_16 (by decide) ?_
    refine lv_istore_n (lv' := [(3, .int 0), (2, .ref q1), (1, .ref q0), (0, .ref b)]) hx hb dl_17 rfl hl (by decide) rfl (fun ls hl => ?_)
    have hadp : ∀ r, r < 108 → (fun r => if r < 108 then ad3 (zx_pm r) else adK (r - 1000)) r = ad3 (zx_pm r) := fun r hr => if_pos hr
    obtain ⟨hP, hD⟩ := zp_world hadp hP hD
    have hX := hZ (fun r => if r < 108 then ad3 (zx_pm r) else adK (r - 1000)) (fun i _ => by
      show (if 1000 + i < 108 then _ else adK (1000 + i - 1000)) = _
      rw [if_neg (by omega), Nat.add_sub_cancel_left])
    have C : zl_C p l s m meth c D (fun r => if r < 108 then ad3 (zx_pm r) else adK (r - 1000)) adV cA b L xs := ⟨hx, hb, hr, hml, hown, hts, hXs, hbl, hlocks, hK, hL, hX⟩
    have a0 : (fun r => if r < 108 then ad3 (zx_pm r) else adK (r - 1000)) 0 = q0 := by
      show (if 0 < 108 then ad3 (zx_pm 0) else _) = _
      rw [if_pos (by decide), show zx_pm 0 = 0 by decide +kernel, g0]
    have a81 : (fun r => if r < 108 then ad3 (zx_pm r) else adK (r - 1000)) 81 = q1 := by
      show (if 81 < 108 then ad3 (zx_pm 81) else _) = _
      rw [if_pos (by decide), show zx_pm 81 = zb_mid by decide +kernel, g1]
    refine W.widen (k := 600000) (n := 7302250) (by show 0 + 1 + _ + 1 + _ ≤ 600000; omega) (by show 0 + 17 + _ + 46 + _ ≤ 7302250; omega) ?_
    refine zl_loop hp C (L + 5) 0 (by omega) (by omega) zx_h0 hI _ _ ls ⟨⟨hP, hD, hS⟩, zx_h0_M⟩ ?_
    rw [show (if 0 < 108 then ad3 (zx_pm 0) else adK (0 - 1000)) = q0 from a0, show (if 81 < 108 then ad3 (zx_pm 81) else adK (81 - 1000)) = q1 from a81]
    exact lv_sub hl [3, 2, 1, 0] rfl
end
section
/-! TEXTS: length and charAt, by the JDK's own code -/
theorem zMetJ {l : Launch} {y : MethodName} {ws ws' : List Cond} {rm : Room} {Pc : Array Value → State → Prop} {Qc : Array Value → State → Outcome → State → Prop} {mc ms : Nat} {free : Addr → Prop} {cc : ByteArray} {maxL : Nat} {ret : Option FieldType}
    (hy : plainFor y = true) (hw : ws = Cond.code y cc maxL ret :: ws')
    (body : ∀ p e s m args below meth c s₁, BodyLoose p l y (headSpec ws rm) cc maxL ret e s m args below meth c s₁ → c.maxLocals = maxL → Pc args s →
      W p l e (headSpec ws rm).room s m args below meth c s.heap [] 0 0 (MQ below Qc args s mc ms free) (entryFrame m args maxL)) : Met l y ws rm Pc Qc mc ms free := by
  refine MetFree.of_bodySF (code := cc) (maxLocals := maxL) (ret := ret) hy ?_ ?_
  · intro args s m h hn
    obtain ⟨meth, c, h1, h2, h3, h4, h5, h6, -, -⟩ := Cond.code_spec hn (atoms_spec (ws := ws) h _ (by rw [hw]; exact List.mem_cons_self))
    exact ⟨meth, c, h1, h2, h3, h4, h5, h6⟩
  · intro p e s m args below meth c s₁ B hml hP _
    have hh0 : s₁.heap = s.heap := by rw [B.state]; rfl
    obtain ⟨t, a1, o, b1, b2, b3⟩ := body p e s m args below meth c s₁ B hml hP s₁ hh0 (Stand.of_body B)
    exact ⟨t, o, a1, b1, b2, ⟨b3.1, b3.2⟩⟩
/-- an answer that changes nothing -/
def zj_Q (rv : Option zV) (h : zM) : zQ := fun r h2 => r = rv ∧ h2 = h
def zj_C (j : Nat) : Prop := True
theorem zj_end {D : va_G} {ad : Nat → Nat} {cA : Nat → ClassId} {A : Nat → Prop} {h : zM} {args : Array Value} {s t : State} {H : Heap} {locs : List Loc} {rv : Option zV} (hM : zc_M h) (hok : zc_okO rv) (hP : va_P D vwCl (zc_ws ad cA h) H) (hD : va_D A (zc_ws ad cA h)) (hK : va_K D vwCl (zc_tys cA) s) (hS : va_S A s.heap H locs) (ht : t.heap = H) (hW : s.WarmedH t.vm) : zc_Qc (zj_Q rv h) D ad cA A args s (.returned (rv.map (zc_v ad))) t :=
  ⟨⟨rv, h, rfl, ⟨⟨rfl, rfl⟩, hok, hM⟩, by rw [ht]; exact hP, va_K.moved hW.alike hK, hD⟩, hS.F ht⟩
def zj_ws (y : MethodName) (cc : ByteArray) (ml : Nat) (ret : Option FieldType) : List Cond := .code y cc ml ret :: zc_tb
theorem zjw_0 : (.fieldLink RJ0 38 "java/lang/String" "COMPACT_STRINGS" "Z" : Cond) ∈ zc_tb := zc_tbI (by decide +kernel) (by decide +kernel)
theorem zjw_1 : (.fieldLink RJ0 15 "java/lang/String" "coder" "B" : Cond) ∈ zc_tb := zc_tbI (by decide +kernel) (by decide +kernel)
theorem zjw_2 : (.fieldLink RJ0 9 "java/lang/String" "value" "[B" : Cond) ∈ zc_tb := zc_tbI (by decide +kernel) (by decide +kernel)
theorem zjw_3 : (.code yJ0_coder_7d493 cJ0_coder_7d493 1 (some .byte) : Cond) ∈ zc_tb := zc_tbI (by decide +kernel) (by decide +kernel)
theorem zjw_4 : (.initialized RJ0 : Cond) ∈ zc_tb := zc_tbI (by decide +kernel) (by decide +kernel)
theorem zjw_5 : (.methodLink RJ0 335 yJ0_coder_7d493 : Cond) ∈ zc_tb := zc_tbI (by decide +kernel) (by decide +kernel)
theorem zjw_6 : (.instanceMethod yJ0_coder_7d493 : Cond) ∈ zc_tb := zc_tbI (by decide +kernel) (by decide +kernel)
theorem zjw_7 : (.selects RJ0 yJ0_coder_7d493 yJ0_coder_7d493 : Cond) ∈ zc_tb := zc_tbI (by decide +kernel) (by decide +kernel)
theorem zjw_8 : (.fieldLink RJ0 1053 "jdk/internal/util/Preconditions" "SIOOBE_FORMATTER" "Ljava/util/function/BiFunction;" : Cond) ∈ zc_tb := zc_tbI (by decide +kernel) (by decide +kernel)
theorem zjw_9 : (.code yJ3_checkIndex_8e157 cJ3_checkIndex_8e157 3 (some .int) : Cond) ∈ zc_tb := zc_tbI (by decide +kernel) (by decide +kernel)
theorem zjw_10 : (.initialized RJ3 : Cond) ∈ zc_tb := zc_tbI (by decide +kernel) (by decide +kernel)
theorem zjw_11 : (.methodLink RJ0 1059 yJ3_checkIndex_8e157 : Cond) ∈ zc_tb := zc_tbI (by decide +kernel) (by decide +kernel)
theorem zjw_12 : (.static yJ3_checkIndex_8e157 : Cond) ∈ zc_tb := zc_tbI (by decide +kernel) (by decide +kernel)
theorem zjw_13 : (.code yJ0_checkIndex_df160 cJ0_checkIndex_df160 2 none : Cond) ∈ zc_tb := zc_tbI (by decide +kernel) (by decide +kernel)
theorem zjw_14 : (.methodLink RJ1 9 yJ0_checkIndex_df160 : Cond) ∈ zc_tb := zc_tbI (by decide +kernel) (by decide +kernel)
theorem zjw_15 : (.static yJ0_checkIndex_df160 : Cond) ∈ zc_tb := zc_tbI (by decide +kernel) (by decide +kernel)
theorem zjw_16 : (.code yJ0_isLatin1_aae02 cJ0_isLatin1_aae02 1 (some .boolean) : Cond) ∈ zc_tb := zc_tbI (by decide +kernel) (by decide +kernel)
theorem zjw_17 : (.methodLink RJ0 492 yJ0_isLatin1_aae02 : Cond) ∈ zc_tb := zc_tbI (by decide +kernel) (by decide +kernel)
theorem zjw_18 : (.instanceMethod yJ0_isLatin1_aae02 : Cond) ∈ zc_tb := zc_tbI (by decide +kernel) (by decide +kernel)
theorem zjw_19 : (.selects RJ0 yJ0_isLatin1_aae02 yJ0_isLatin1_aae02 : Cond) ∈ zc_tb := zc_tbI (by decide +kernel) (by decide +kernel)
theorem zjw_20 : (.code yJ1_charAt_3b067 cJ1_charAt_3b067 2 (some .char) : Cond) ∈ zc_tb := zc_tbI (by decide +kernel) (by decide +kernel)
theorem zjw_21 : (.initialized RJ1 : Cond) ∈ zc_tb := zc_tbI (by decide +kernel) (by decide +kernel)
theorem zjw_22 : (.methodLink RJ0 495 yJ1_charAt_3b067 : Cond) ∈ zc_tb := zc_tbI (by decide +kernel) (by decide +kernel)
theorem zjw_23 : (.static yJ1_charAt_3b067 : Cond) ∈ zc_tb := zc_tbI (by decide +kernel) (by decide +kernel)
theorem dJ0_coder_7d493_0 : decode cJ0_coder_7d493 0 = .ok (.getstatic 38, 3) := by decide +kernel
theorem dJ0_coder_7d493_3 : decode cJ0_coder_7d493 3 = .ok (.ifCond .eq 10, 3) := by decide +kernel
theorem dJ0_coder_7d493_6 : decode cJ0_coder_7d493 6 = .ok (.aload_n 0, 1) := by decide +kernel
theorem dJ0_coder_7d493_7 : decode cJ0_coder_7d493 7 = .ok (.getfield 15, 3) := by decide +kernel
theorem dJ0_coder_7d493_10 : decode cJ0_coder_7d493 10 = .ok (.goto 4, 3) := by decide +kernel
theorem dJ0_coder_7d493_14 : decode cJ0_coder_7d493 14 = .ok (.ireturn, 1) := by decide +kernel
set_option maxRecDepth 100000 in
set_option maxHeartbeats 4000000 in
theorem zj_coder {i : Nat} (hi : i < 13) {h : zM} (hM : zc_M h) (l : Launch) (D : va_G) (ad adV : Nat → Nat) (cA : Nat → ClassId) (A : Nat → Prop)  : Met l yJ0_coder_7d493 (zj_ws yJ0_coder_7d493 cJ0_coder_7d493 1 (some .byte)) { frames := 0, cells := 0, slots := 0, locals := 0 } (va_Pc [.ref (ad (1000 + i))] (zc_pre D ad adV cA A h)) (zc_Qc (zj_Q (some (.inl 0)) h) D ad cA A) 0 0 A := by
  refine zMetJ (cc := cJ0_coder_7d493) (maxL := 1) (ret := (some .byte)) (by decide +kernel) rfl ?_
  intro p e s m args below meth c s₁ B hml hv
  obtain ⟨rfl, hP, hK, hD, hX, hA⟩ := hv
  have hx := B.exec
  have hb := B.bytes
  have hr := B.returns
  have hlocks := B.notSynchronized
  have hts0 := atoms_spec (ws := zj_ws yJ0_coder_7d493 cJ0_coder_7d493 1 (some .byte)) B.pre
  have hts : ∀ w ∈ zc_tb, w.before [.ref (ad (1000 + i))].toArray s = true := fun w hw => hts0 w (List.mem_cons_of_mem _ hw)
  have hown : s.vm.findClass RJ0 = some m.cls := findClass_of_methodNamed B.named
  have hl := lv_entry ([.ref (ad (1000 + i))]) (n := 1) (Nat.le_of_ble_eq_true rfl)
  rw [lg_entry_eq]
  generalize (lg_sl ([.ref (ad (1000 + i))]) ++ List.replicate (1 - (lg_sl ([.ref (ad (1000 + i))])).length) Slot.unset).toArray = ls at hl ⊢
  have hl : lv_has ls 1 [(0, .ref (ad (1000 + i)))] := hl
  have hS : va_S A s.heap s.heap [] := va_S.rf
  refine va_gets hx hb hX.2.2.2.1 hS hown (hts _ zjw_0) (fun _ z => z) dJ0_coder_7d493_0 ?_
  refine lv_if_eq (tgt := 13) hx hb dJ0_coder_7d493_3 (by decide) (fun z => absurd z (by decide)) (fun _ => ?_)
  refine lv_aload_n hx hb dJ0_coder_7d493_6 rfl (lv_at hl 0 rfl) ?_
  refine vk_getf hx hb (hX.2.2.1.1 i hi).2.1 hS hown (hts _ zjw_1) (fun _ z => z) dJ0_coder_7d493_7 ?_
  refine lv_goto (tgt := 14) hx hb dJ0_coder_7d493_10 (by decide) ?_
  exact W.zret (v := 0) (ty := .byte) hx hb hr (by decide) (fun t ht hW => zj_end (rv := some (.inl 0)) hM (fun v hv => by cases hv; exact zc_i0) hP hD hK hS ht hW) hS.2.2 dJ0_coder_7d493_14 hlocks
theorem dJ0_isLatin1_aae02_0 : decode cJ0_isLatin1_aae02 0 = .ok (.getstatic 38, 3) := by decide +kernel
theorem dJ0_isLatin1_aae02_3 : decode cJ0_isLatin1_aae02 3 = .ok (.ifCond .eq 14, 3) := by decide +kernel
theorem dJ0_isLatin1_aae02_6 : decode cJ0_isLatin1_aae02 6 = .ok (.aload_n 0, 1) := by decide +kernel
theorem dJ0_isLatin1_aae02_7 : decode cJ0_isLatin1_aae02 7 = .ok (.getfield 15, 3) := by decide +kernel
theorem dJ0_isLatin1_aae02_10 : decode cJ0_isLatin1_aae02 10 = .ok (.ifCond .ne 7, 3) := by decide +kernel
theorem dJ0_isLatin1_aae02_13 : decode cJ0_isLatin1_aae02 13 = .ok (.iconst 1, 1) := by decide +kernel
theorem dJ0_isLatin1_aae02_14 : decode cJ0_isLatin1_aae02 14 = .ok (.goto 4, 3) := by decide +kernel
theorem dJ0_isLatin1_aae02_18 : decode cJ0_isLatin1_aae02 18 = .ok (.ireturn, 1) := by decide +kernel
set_option maxRecDepth 100000 in
set_option maxHeartbeats 4000000 in
theorem zj_isLatin1 {i : Nat} (hi : i < 13) {h : zM} (hM : zc_M h) (l : Launch) (D : va_G) (ad adV : Nat → Nat) (cA : Nat → ClassId) (A : Nat → Prop)  : Met l yJ0_isLatin1_aae02 (zj_ws yJ0_isLatin1_aae02 cJ0_isLatin1_aae02 1 (some .boolean)) { frames := 0, cells := 0, slots := 0, locals := 0 } (va_Pc [.ref (ad (1000 + i))] (zc_pre D ad adV cA A h)) (zc_Qc (zj_Q (some (.inl 1)) h) D ad cA A) 0 0 A := by
  refine zMetJ (cc := cJ0_isLatin1_aae02) (maxL := 1) (ret := (some .boolean)) (by decide +kernel) rfl ?_
  intro p e s m args below meth c s₁ B hml hv
  obtain ⟨rfl, hP, hK, hD, hX, hA⟩ := hv
  have hx := B.exec
  have hb := B.bytes
  have hr := B.returns
  have hlocks := B.notSynchronized
  have hts0 := atoms_spec (ws := zj_ws yJ0_isLatin1_aae02 cJ0_isLatin1_aae02 1 (some .boolean)) B.pre
  have hts : ∀ w ∈ zc_tb, w.before [.ref (ad (1000 + i))].toArray s = true := fun w hw => hts0 w (List.mem_cons_of_mem _ hw)
  have hown : s.vm.findClass RJ0 = some m.cls := findClass_of_methodNamed B.named
  have hl := lv_entry ([.ref (ad (1000 + i))]) (n := 1) (Nat.le_of_ble_eq_true rfl)
  rw [lg_entry_eq]
  generalize (lg_sl ([.ref (ad (1000 + i))]) ++ List.replicate (1 - (lg_sl ([.ref (ad (1000 + i))])).length) Slot.unset).toArray = ls at hl ⊢
  have hl : lv_has ls 1 [(0, .ref (ad (1000 + i)))] := hl
  have hS : va_S A s.heap s.heap [] := va_S.rf
  refine va_gets hx hb hX.2.2.2.1 hS hown (hts _ zjw_0) (fun _ z => z) dJ0_isLatin1_aae02_0 ?_
  refine lv_if_eq (tgt := 17) hx hb dJ0_isLatin1_aae02_3 (by decide) (fun z => absurd z (by decide)) (fun _ => ?_)
  refine lv_aload_n hx hb dJ0_isLatin1_aae02_6 rfl (lv_at hl 0 rfl) ?_
  refine vk_getf hx hb (hX.2.2.1.1 i hi).2.1 hS hown (hts _ zjw_1) (fun _ z => z) dJ0_isLatin1_aae02_7 ?_
  refine lv_if_ne (tgt := 17) hx hb dJ0_isLatin1_aae02_10 (by decide) (fun z => absurd rfl z) (fun _ => ?_)
  refine lv_iconst (v := 1) hx hb dJ0_isLatin1_aae02_13 (by decide) ?_
  refine lv_goto (tgt := 18) hx hb dJ0_isLatin1_aae02_14 (by decide) ?_
  exact W.zret (v := 1) (ty := .boolean) hx hb hr (by decide) (fun t ht hW => zj_end (rv := some (.inl 1)) hM (fun v hv => by cases hv; exact ⟨by omega, by omega⟩) hP hD hK hS ht hW) hS.2.2 dJ0_isLatin1_aae02_18 hlocks
theorem dJ3_checkIndex_8e157_0 : decode cJ3_checkIndex_8e157 0 = .ok (.iload_n 0, 1) := by decide +kernel
theorem dJ3_checkIndex_8e157_1 : decode cJ3_checkIndex_8e157 1 = .ok (.ifCond .lt 8, 3) := by decide +kernel
theorem dJ3_checkIndex_8e157_4 : decode cJ3_checkIndex_8e157 4 = .ok (.iload_n 0, 1) := by decide +kernel
theorem dJ3_checkIndex_8e157_5 : decode cJ3_checkIndex_8e157 5 = .ok (.iload_n 1, 1) := by decide +kernel
theorem dJ3_checkIndex_8e157_6 : decode cJ3_checkIndex_8e157 6 = .ok (.if_icmp .lt 10, 3) := by decide +kernel
theorem dJ3_checkIndex_8e157_16 : decode cJ3_checkIndex_8e157 16 = .ok (.iload_n 0, 1) := by decide +kernel
theorem dJ3_checkIndex_8e157_17 : decode cJ3_checkIndex_8e157 17 = .ok (.ireturn, 1) := by decide +kernel
set_option maxRecDepth 100000 in
set_option maxHeartbeats 4000000 in
theorem zj_pcheck {k n : Int} (hk : zc_i k) (hn : zc_i n) (h0 : 0 ≤ k) (h1 : k < n) {v2 : Value} (hv2 : v2 = .null ∨ ∃ a, v2 = .ref a) {h : zM} (hM : zc_M h) (l : Launch) (D : va_G) (ad adV : Nat → Nat) (cA : Nat → ClassId) (A : Nat → Prop)  : Met l yJ3_checkIndex_8e157 (zj_ws yJ3_checkIndex_8e157 cJ3_checkIndex_8e157 3 (some .int)) { frames := 0, cells := 0, slots := 0, locals := 0 } (va_Pc [.int (Int32.ofInt k), .int (Int32.ofInt n), v2] (zc_pre D ad adV cA A h)) (zc_Qc (zj_Q (some (.inl k)) h) D ad cA A) 0 0 A := by
  refine zMetJ (cc := cJ3_checkIndex_8e157) (maxL := 3) (ret := (some .int)) (by decide +kernel) rfl ?_
  intro p e s m args below meth c s₁ B hml hv
  obtain ⟨rfl, hP, hK, hD, hX, hA⟩ := hv
  have hx := B.exec
  have hb := B.bytes
  have hr := B.returns
  have hlocks := B.notSynchronized
  have hts0 := atoms_spec (ws := zj_ws yJ3_checkIndex_8e157 cJ3_checkIndex_8e157 3 (some .int)) B.pre
  have hts : ∀ w ∈ zc_tb, w.before [.int (Int32.ofInt k), .int (Int32.ofInt n), v2].toArray s = true := fun w hw => hts0 w (List.mem_cons_of_mem _ hw)
  have hown : s.vm.findClass RJ3 = some m.cls := findClass_of_methodNamed B.named
  have hl := lv_entry ([.int (Int32.ofInt k), .int (Int32.ofInt n), v2]) (n := 3) (by rcases hv2 with rfl | ⟨_, rfl⟩ <;> exact Nat.le_of_ble_eq_true rfl)
  rw [lg_entry_eq]
  generalize (lg_sl ([.int (Int32.ofInt k), .int (Int32.ofInt n), v2]) ++ List.replicate (3 - (lg_sl ([.int (Int32.ofInt k), .int (Int32.ofInt n), v2])).length) Slot.unset).toArray = ls at hl ⊢
  have hl : lv_has ls 3 [(0, .int (Int32.ofInt k)), (1, .int (Int32.ofInt n)), (2, v2)] := hl
  have hS : va_S A s.heap s.heap [] := va_S.rf
  refine lv_iload_n hx hb dJ3_checkIndex_8e157_0 rfl (lv_at hl 0 rfl) ?_
  refine lv_if_lt (tgt := 9) hx hb dJ3_checkIndex_8e157_1 (by decide) (fun z => absurd ((zc_lt0 hk).mp z) (by omega)) (fun _ => ?_)
  refine lv_iload_n hx hb dJ3_checkIndex_8e157_4 rfl (lv_at hl 0 rfl) ?_
  refine lv_iload_n hx hb dJ3_checkIndex_8e157_5 rfl (lv_at hl 1 rfl) ?_
  refine lv_icmp_lt (tgt := 16) hx hb dJ3_checkIndex_8e157_6 (by decide) (fun _ => ?_) (fun z => absurd ((zc_lt hk hn).mpr h1) z)
  refine lv_iload_n hx hb dJ3_checkIndex_8e157_16 rfl (lv_at hl 0 rfl) ?_
  exact W.iret (v := Int32.ofInt k) hx hb hr (fun t ht hW => zj_end (rv := some (.inl k)) hM (fun v hv => by cases hv; exact hk) hP hD hK hS ht hW) hS.2.2 dJ3_checkIndex_8e157_17 hlocks
theorem dJ0_length_8abf5_0 : decode cJ0_length_8abf5 0 = .ok (.aload_n 0, 1) := by decide +kernel
theorem dJ0_length_8abf5_1 : decode cJ0_length_8abf5 1 = .ok (.getfield 9, 3) := by decide +kernel
theorem dJ0_length_8abf5_4 : decode cJ0_length_8abf5 4 = .ok (.arraylength, 1) := by decide +kernel
theorem dJ0_length_8abf5_5 : decode cJ0_length_8abf5 5 = .ok (.aload_n 0, 1) := by decide +kernel
theorem dJ0_length_8abf5_6 : decode cJ0_length_8abf5 6 = .ok (.invokevirtual 335, 3) := by decide +kernel
theorem dJ0_length_8abf5_9 : decode cJ0_length_8abf5 9 = .ok (.ishr, 1) := by decide +kernel
theorem dJ0_length_8abf5_10 : decode cJ0_length_8abf5 10 = .ok (.ireturn, 1) := by decide +kernel
set_option maxRecDepth 100000 in
set_option maxHeartbeats 4000000 in
theorem zj_length {i : Nat} (hi : i < 13) {h : zM} (hM : zc_M h) (l : Launch) (D : va_G) (ad adV : Nat → Nat) (cA : Nat → ClassId) (A : Nat → Prop)  : Met l yJ0_length_8abf5 (zj_ws yJ0_length_8abf5 cJ0_length_8abf5 1 (some .int)) { frames := 1, cells := 0, slots := 0, locals := 21 } (va_Pc [.ref (ad (1000 + i))] (zc_pre D ad adV cA A h)) (zc_Qc (zj_Q (some (.inl (zc_lS.getD i 0 : Nat))) h) D ad cA A) 0 0 A := by
  refine zMetJ (cc := cJ0_length_8abf5) (maxL := 1) (ret := (some .int)) (by decide +kernel) rfl ?_
  intro p e s m args below meth c s₁ B hml hv
  obtain ⟨rfl, hP, hK, hD, hX, hA⟩ := hv
  have hx := B.exec
  have hb := B.bytes
  have hr := B.returns
  have hlocks := B.notSynchronized
  have hts0 := atoms_spec (ws := zj_ws yJ0_length_8abf5 cJ0_length_8abf5 1 (some .int)) B.pre
  have hts : ∀ w ∈ zc_tb, w.before [.ref (ad (1000 + i))].toArray s = true := fun w hw => hts0 w (List.mem_cons_of_mem _ hw)
  have hown : s.vm.findClass RJ0 = some m.cls := findClass_of_methodNamed B.named
  have hl := lv_entry ([.ref (ad (1000 + i))]) (n := 1) (Nat.le_of_ble_eq_true rfl)
  rw [lg_entry_eq]
  generalize (lg_sl ([.ref (ad (1000 + i))]) ++ List.replicate (1 - (lg_sl ([.ref (ad (1000 + i))])).length) Slot.unset).toArray = ls at hl ⊢
  have hl : lv_has ls 1 [(0, .ref (ad (1000 + i)))] := hl
  have hS : va_S A s.heap s.heap [] := va_S.rf
  have hlen : zc_lS.getD i 0 < 100 := by
    have : ∀ i, i < 13 → zc_lS.getD i 0 < 100 := by decide
    exact this i hi
  refine lv_aload_n hx hb dJ0_length_8abf5_0 rfl (lv_at hl 0 rfl) ?_
  refine vk_getf hx hb (hX.2.2.1.1 i hi).2.2.1 hS hown (hts _ zjw_2) (fun _ z => z) dJ0_length_8abf5_1 ?_
  refine va_tlen (v := Int32.ofInt (zc_lS.getD i 0 : Nat)) hx hb (hX.2.2.1.1 i hi).2.2.2 hS (zc_ofN _).symm dJ0_length_8abf5_4 ?_
  refine lv_aload_n hx hb dJ0_length_8abf5_5 rfl (lv_at hl 0 rfl) ?_
  refine zc_call (H0 := s.heap) (Qz := zj_Q (some (.inl 0)) h) (va_runV (Ts := zc_tb) (C := RJ0) (As := []) (rest := [.int (Int32.ofInt (zc_lS.getD i 0 : Nat))]) ⟨hx, hb, hml, hown, hts⟩ (zj_coder hi hM l D ad adV cA A) ⟨callB_of 0 hts (zc_goodIn (fun w hw => by
    rcases List.mem_cons.mp hw with rfl | hw
    · exact zjw_3
    · exact hw)) rfl rfl rfl (hts _ zjw_4) (hts _ zjw_5) ⟨by decide, by decide, by decide +kernel⟩ ⟨Nat.le_of_ble_eq_true rfl, Nat.le_of_ble_eq_true rfl⟩, (hts _ zjw_6), (hts _ zjw_7)⟩ ⟨zc_blind, vk_recv hX.2.2.1 hi hS, fun U hU hW => ⟨rfl, by rw [hU]; exact hP, va_K.moved hW.alike hK, hD, by rw [hU]; exact (hX.warm hW).kept hS.2.1, fun q hq => hA q (by rw [hU] at hq; exact Nat.le_trans hS.1 hq)⟩⟩ rfl rfl hl.1 rfl (by show 2 * 0 + _ ≤ 8; simp [Value.category]) dJ0_length_8abf5_6 ⟨Nat.zero_le _, Nat.zero_le _⟩) hS (fun rv h2 t H1 locs1 ht hvm hq hok hM2 hB hS => ?_)
  obtain ⟨rfl, hh⟩ := hq
  rw [hh] at hB
  obtain ⟨hP1, hK1, hD1⟩ := hB
  rw [ht] at hP1
  refine lv_ishr hx hb dJ0_length_8abf5_9 ?_
  have hz : zc_i (zc_lS.getD i 0 : Nat) := by unfold zc_i; omega
  have e1 : Int32.ofInt (zc_lS.getD i 0 : Nat) >>> (Int32.ofInt 0 &&& 31) = Int32.ofInt (zc_lS.getD i 0 : Nat) := by
    rw [zc_ofN]
    exact sb_shr0 _
  rw [e1]
  exact W.iret (v := Int32.ofInt (zc_lS.getD i 0 : Nat)) hx hb hr (fun t ht hW => zj_end (rv := some (.inl (zc_lS.getD i 0 : Nat))) hM (fun v hv => by cases hv; exact hz) hP1 hD1 hK hS ht hW) hS.2.2 dJ0_length_8abf5_10 hlocks
theorem dJ0_checkIndex_df160_0 : decode cJ0_checkIndex_df160 0 = .ok (.iload_n 0, 1) := by decide +kernel
theorem dJ0_checkIndex_df160_1 : decode cJ0_checkIndex_df160 1 = .ok (.iload_n 1, 1) := by decide +kernel
theorem dJ0_checkIndex_df160_2 : decode cJ0_checkIndex_df160 2 = .ok (.getstatic 1053, 3) := by decide +kernel
theorem dJ0_checkIndex_df160_5 : decode cJ0_checkIndex_df160 5 = .ok (.invokestatic 1059, 3) := by decide +kernel
theorem dJ0_checkIndex_df160_8 : decode cJ0_checkIndex_df160 8 = .ok (.pop, 1) := by decide +kernel
theorem dJ0_checkIndex_df160_9 : decode cJ0_checkIndex_df160 9 = .ok (.return_, 1) := by decide +kernel
set_option maxRecDepth 100000 in
set_option maxHeartbeats 4000000 in
theorem zj_scheck {k n : Int} (hk : zc_i k) (hn : zc_i n) (h0 : 0 ≤ k) (h1 : k < n) {h : zM} (hM : zc_M h) (l : Launch) (D : va_G) (ad adV : Nat → Nat) (cA : Nat → ClassId) (A : Nat → Prop)  : Met l yJ0_checkIndex_df160 (zj_ws yJ0_checkIndex_df160 cJ0_checkIndex_df160 2 none) { frames := 1, cells := 0, slots := 0, locals := 22 } (va_Pc [.int (Int32.ofInt k), .int (Int32.ofInt n)] (zc_pre D ad adV cA A h)) (zc_Qc (zj_Q none h) D ad cA A) 0 0 A := by
  refine zMetJ (cc := cJ0_checkIndex_df160) (maxL := 2) (ret := none) (by decide +kernel) rfl ?_
  intro p e s m args below meth c s₁ B hml hv
  obtain ⟨rfl, hP, hK, hD, hX, hA⟩ := hv
  have hx := B.exec
  have hb := B.bytes
  have hr := B.returns
  have hlocks := B.notSynchronized
  have hts0 := atoms_spec (ws := zj_ws yJ0_checkIndex_df160 cJ0_checkIndex_df160 2 none) B.pre
  have hts : ∀ w ∈ zc_tb, w.before [.int (Int32.ofInt k), .int (Int32.ofInt n)].toArray s = true := fun w hw => hts0 w (List.mem_cons_of_mem _ hw)
  have hown : s.vm.findClass RJ0 = some m.cls := findClass_of_methodNamed B.named
  have hl := lv_entry ([.int (Int32.ofInt k), .int (Int32.ofInt n)]) (n := 2) (Nat.le_of_ble_eq_true rfl)
  rw [lg_entry_eq]
  generalize (lg_sl ([.int (Int32.ofInt k), .int (Int32.ofInt n)]) ++ List.replicate (2 - (lg_sl ([.int (Int32.ofInt k), .int (Int32.ofInt n)])).length) Slot.unset).toArray = ls at hl ⊢
  have hl : lv_has ls 2 [(0, .int (Int32.ofInt k)), (1, .int (Int32.ofInt n))] := hl
  have hS : va_S A s.heap s.heap [] := va_S.rf
  obtain ⟨v2, hv2, hZ⟩ := hX.2.2.2.2
  refine lv_iload_n hx hb dJ0_checkIndex_df160_0 rfl (lv_at hl 0 rfl) ?_
  refine lv_iload_n hx hb dJ0_checkIndex_df160_1 rfl (lv_at hl 1 rfl) ?_
  refine va_gets hx hb hZ hS hown (hts _ zjw_8) (fun _ z => z) dJ0_checkIndex_df160_2 ?_
  refine zc_call (H0 := s.heap) (Qz := zj_Q (some (.inl k)) h) (va_runS (Ts := zc_tb) (As := [.int (Int32.ofInt k), .int (Int32.ofInt n), v2]) (rest := []) ⟨hx, hb, hml, hown, hts⟩ (zj_pcheck hk hn h0 h1 hv2 hM l D ad adV cA A) ⟨callB_of 3 hts (zc_goodIn (fun w hw => by
    rcases List.mem_cons.mp hw with rfl | hw
    · exact zjw_9
    · exact hw)) rfl rfl rfl (hts _ zjw_10) (hts _ zjw_11) ⟨by decide, by decide, by decide +kernel⟩ ⟨Nat.le_of_ble_eq_true rfl, Nat.le_of_ble_eq_true rfl⟩, (hts _ zjw_12)⟩ ⟨zc_blind, fun U hU hW => ⟨rfl, by rw [hU]; exact hP, va_K.moved hW.alike hK, hD, by rw [hU]; exact (hX.warm hW).kept hS.2.1, fun q hq => hA q (by rw [hU] at hq; exact Nat.le_trans hS.1 hq)⟩⟩ rfl rfl hl.1 rfl (by show 2 * 0 + _ ≤ 8; decide) dJ0_checkIndex_df160_5 ⟨Nat.zero_le _, Nat.zero_le _⟩) hS (fun rv h2 t H1 locs1 ht hvm hq hok hM2 hB hS => ?_)
  obtain ⟨rfl, hh⟩ := hq
  rw [hh] at hB
  obtain ⟨hP1, hK1, hD1⟩ := hB
  rw [ht] at hP1
  refine lv_pop hx hb dJ0_checkIndex_df160_8 rfl ?_
  exact W.vret hx hb hr (fun t ht hW => zj_end (rv := none) hM (fun v hv => by cases hv) hP1 hD1 hK hS ht hW) hS.2.2 dJ0_checkIndex_df160_9 hlocks
theorem dJ1_charAt_3b067_0 : decode cJ1_charAt_3b067 0 = .ok (.iload_n 1, 1) := by decide +kernel
theorem dJ1_charAt_3b067_1 : decode cJ1_charAt_3b067 1 = .ok (.aload_n 0, 1) := by decide +kernel
theorem dJ1_charAt_3b067_2 : decode cJ1_charAt_3b067 2 = .ok (.arraylength, 1) := by decide +kernel
theorem dJ1_charAt_3b067_3 : decode cJ1_charAt_3b067 3 = .ok (.invokestatic 9, 3) := by decide +kernel
theorem dJ1_charAt_3b067_6 : decode cJ1_charAt_3b067 6 = .ok (.aload_n 0, 1) := by decide +kernel
theorem dJ1_charAt_3b067_7 : decode cJ1_charAt_3b067 7 = .ok (.iload_n 1, 1) := by decide +kernel
theorem dJ1_charAt_3b067_8 : decode cJ1_charAt_3b067 8 = .ok (.baload, 1) := by decide +kernel
theorem dJ1_charAt_3b067_9 : decode cJ1_charAt_3b067 9 = .ok (.sipush 255, 3) := by decide +kernel
theorem dJ1_charAt_3b067_12 : decode cJ1_charAt_3b067 12 = .ok (.iand, 1) := by decide +kernel
theorem dJ1_charAt_3b067_13 : decode cJ1_charAt_3b067 13 = .ok (.i2c, 1) := by decide +kernel
theorem dJ1_charAt_3b067_14 : decode cJ1_charAt_3b067 14 = .ok (.ireturn, 1) := by decide +kernel
set_option maxRecDepth 100000 in
set_option maxHeartbeats 4000000 in
theorem zj_lcharAt {i : Nat} (hi : i < 13) {k : Int} (h0 : 0 ≤ k) (h1 : k < (zc_lS.getD i 0 : Nat)) {h : zM} (hM : zc_M h) (l : Launch) (D : va_G) (ad adV : Nat → Nat) (cA : Nat → ClassId) (A : Nat → Prop)  : Met l yJ1_charAt_3b067 (zj_ws yJ1_charAt_3b067 cJ1_charAt_3b067 2 (some .char)) { frames := 2, cells := 0, slots := 0, locals := 43 } (va_Pc [.ref (adV i), .int (Int32.ofInt k)] (zc_pre D ad adV cA A h)) (zc_Qc (zj_Q (some (.inl ((zc_bS.getD i []).getD k.toNat 0).toInt)) h) D ad cA A) 0 0 A := by
  refine zMetJ (cc := cJ1_charAt_3b067) (maxL := 2) (ret := (some .char)) (by decide +kernel) rfl ?_
  intro p e s m args below meth c s₁ B hml hv
  obtain ⟨rfl, hP, hK, hD, hX, hA⟩ := hv
  have hx := B.exec
  have hb := B.bytes
  have hr := B.returns
  have hlocks := B.notSynchronized
  have hts0 := atoms_spec (ws := zj_ws yJ1_charAt_3b067 cJ1_charAt_3b067 2 (some .char)) B.pre
  have hts : ∀ w ∈ zc_tb, w.before [.ref (adV i), .int (Int32.ofInt k)].toArray s = true := fun w hw => hts0 w (List.mem_cons_of_mem _ hw)
  have hown : s.vm.findClass RJ1 = some m.cls := findClass_of_methodNamed B.named
  have hl := lv_entry ([.ref (adV i), .int (Int32.ofInt k)]) (n := 2) (Nat.le_of_ble_eq_true rfl)
  rw [lg_entry_eq]
  generalize (lg_sl ([.ref (adV i), .int (Int32.ofInt k)]) ++ List.replicate (2 - (lg_sl ([.ref (adV i), .int (Int32.ofInt k)])).length) Slot.unset).toArray = ls at hl ⊢
  have hl : lv_has ls 2 [(0, .ref (adV i)), (1, .int (Int32.ofInt k))] := hl
  have hS : va_S A s.heap s.heap [] := va_S.rf
  have hlen : zc_lS.getD i 0 < 100 := by
    have : ∀ i, i < 13 → zc_lS.getD i 0 < 100 := by decide
    exact this i hi
  have hk : zc_i k := by unfold zc_i; omega
  have hz : zc_i (zc_lS.getD i 0 : Nat) := by unfold zc_i; omega
  refine lv_iload_n hx hb dJ1_charAt_3b067_0 rfl (lv_at hl 1 rfl) ?_
  refine lv_aload_n hx hb dJ1_charAt_3b067_1 rfl (lv_at hl 0 rfl) ?_
  refine va_tlen (v := Int32.ofInt (zc_lS.getD i 0 : Nat)) hx hb (hX.2.2.1.1 i hi).2.2.2 hS (zc_ofN _).symm dJ1_charAt_3b067_2 ?_
  refine zc_call (H0 := s.heap) (Qz := zj_Q none h) (va_runS (Ts := zc_tb) (As := [.int (Int32.ofInt k), .int (Int32.ofInt (zc_lS.getD i 0 : Nat))]) (rest := []) ⟨hx, hb, hml, hown, hts⟩ (zj_scheck hk hz h0 h1 hM l D ad adV cA A) ⟨callB_of 2 hts (zc_goodIn (fun w hw => by
    rcases List.mem_cons.mp hw with rfl | hw
    · exact zjw_13
    · exact hw)) rfl rfl rfl (hts _ zjw_4) (hts _ zjw_14) ⟨by decide, by decide, by decide +kernel⟩ ⟨Nat.le_of_ble_eq_true rfl, Nat.le_of_ble_eq_true rfl⟩, (hts _ zjw_15)⟩ ⟨zc_blind, fun U hU hW => ⟨rfl, by rw [hU]; exact hP, va_K.moved hW.alike hK, hD, by rw [hU]; exact (hX.warm hW).kept hS.2.1, fun q hq => hA q (by rw [hU] at hq; exact Nat.le_trans hS.1 hq)⟩⟩ rfl rfl hl.1 rfl (by show 2 * 0 + _ ≤ 8; decide) dJ1_charAt_3b067_3 ⟨Nat.zero_le _, Nat.zero_le _⟩) hS (fun rv h2 t H1 locs1 ht hvm hq hok hM2 hB hS => ?_)
  obtain ⟨rfl, hh⟩ := hq
  rw [hh] at hB
  obtain ⟨hP1, hK1, hD1⟩ := hB
  rw [ht] at hP1
  refine lv_aload_n hx hb dJ1_charAt_3b067_6 rfl (lv_at hl 0 rfl) ?_
  refine lv_iload_n hx hb dJ1_charAt_3b067_7 rfl (lv_at hl 1 rfl) ?_
  refine va_tb (v := .int ((zc_bS.getD i []).getD k.toNat 0)) hx hb (hX.2.2.1.1 i hi).2.2.2 hS (zc_in hk h0 h1) (by rw [zc_cl hk]) dJ1_charAt_3b067_8 ?_
  refine lv_sipush (v := 255) hx hb dJ1_charAt_3b067_9 (by decide) ?_
  refine lv_iand hx hb dJ1_charAt_3b067_12 ?_
  have hb8 : ∀ i, i < 13 → ∀ k, k < zc_lS.getD i 0 → (((zc_bS.getD i []).getD k 0 &&& 255).toUInt32 % 65536).toInt32 = (zc_bS.getD i []).getD k 0 ∧ narrow .char (.int ((zc_bS.getD i []).getD k 0)) = .int ((zc_bS.getD i []).getD k 0) := by decide +kernel
  have hb9 := hb8 i hi k.toNat (by omega)
  refine lv_i2c (v := (zc_bS.getD i []).getD k.toNat 0) hx hb dJ1_charAt_3b067_13 hb9.1 ?_
  have hv : zc_v ad (.inl ((zc_bS.getD i []).getD k.toNat 0).toInt) = .int ((zc_bS.getD i []).getD k.toNat 0) := by show Value.int (Int32.ofInt _) = _; rw [zc_oi]
  refine W.zret (v := (zc_bS.getD i []).getD k.toNat 0) (ty := .char) hx hb hr hb9.2 (fun t ht hW => ?_) hS.2.2 dJ1_charAt_3b067_14 hlocks
  have := zj_end (args := [.ref (adV i), .int (Int32.ofInt k)].toArray) (rv := some (.inl ((zc_bS.getD i []).getD k.toNat 0).toInt)) hM (fun v hv => by cases hv; exact zc_ri _) hP1 hD1 hK hS ht hW
  rw [Option.map_some, hv] at this
  exact this
theorem dJ0_charAt_5068e_0 : decode cJ0_charAt_5068e 0 = .ok (.aload_n 0, 1) := by decide +kernel
theorem dJ0_charAt_5068e_1 : decode cJ0_charAt_5068e 1 = .ok (.invokevirtual 492, 3) := by decide +kernel
theorem dJ0_charAt_5068e_4 : decode cJ0_charAt_5068e 4 = .ok (.ifCond .eq 12, 3) := by decide +kernel
theorem dJ0_charAt_5068e_7 : decode cJ0_charAt_5068e 7 = .ok (.aload_n 0, 1) := by decide +kernel
theorem dJ0_charAt_5068e_8 : decode cJ0_charAt_5068e 8 = .ok (.getfield 9, 3) := by decide +kernel
theorem dJ0_charAt_5068e_11 : decode cJ0_charAt_5068e 11 = .ok (.iload_n 1, 1) := by decide +kernel
theorem dJ0_charAt_5068e_12 : decode cJ0_charAt_5068e 12 = .ok (.invokestatic 495, 3) := by decide +kernel
theorem dJ0_charAt_5068e_15 : decode cJ0_charAt_5068e 15 = .ok (.ireturn, 1) := by decide +kernel
set_option maxRecDepth 100000 in
set_option maxHeartbeats 4000000 in
theorem zj_charAt {i : Nat} (hi : i < 13) {k : Int} (h0 : 0 ≤ k) (h1 : k < (zc_lS.getD i 0 : Nat)) {h : zM} (hM : zc_M h) (l : Launch) (D : va_G) (ad adV : Nat → Nat) (cA : Nat → ClassId) (A : Nat → Prop)  : Met l yJ0_charAt_5068e (zj_ws yJ0_charAt_5068e cJ0_charAt_5068e 2 (some .char)) { frames := 3, cells := 0, slots := 0, locals := 90 } (va_Pc [.ref (ad (1000 + i)), .int (Int32.ofInt k)] (zc_pre D ad adV cA A h)) (zc_Qc (zj_Q (some (.inl ((zc_bS.getD i []).getD k.toNat 0).toInt)) h) D ad cA A) 0 0 A := by
  refine zMetJ (cc := cJ0_charAt_5068e) (maxL := 2) (ret := (some .char)) (by decide +kernel) rfl ?_
  intro p e s m args below meth c s₁ B hml hv
  obtain ⟨rfl, hP, hK, hD, hX, hA⟩ := hv
  have hx := B.exec
  have hb := B.bytes
  have hr := B.returns
  have hlocks := B.notSynchronized
  have hts0 := atoms_spec (ws := zj_ws yJ0_charAt_5068e cJ0_charAt_5068e 2 (some .char)) B.pre
  have hts : ∀ w ∈ zc_tb, w.before [.ref (ad (1000 + i)), .int (Int32.ofInt k)].toArray s = true := fun w hw => hts0 w (List.mem_cons_of_mem _ hw)
  have hown : s.vm.findClass RJ0 = some m.cls := findClass_of_methodNamed B.named
  have hl := lv_entry ([.ref (ad (1000 + i)), .int (Int32.ofInt k)]) (n := 2) (Nat.le_of_ble_eq_true rfl)
  rw [lg_entry_eq]
  generalize (lg_sl ([.ref (ad (1000 + i)), .int (Int32.ofInt k)]) ++ List.replicate (2 - (lg_sl ([.ref (ad (1000 + i)), .int (Int32.ofInt k)])).length) Slot.unset).toArray = ls at hl ⊢
  have hl : lv_has ls 2 [(0, .ref (ad (1000 + i))), (1, .int (Int32.ofInt k))] := hl
  have hS : va_S A s.heap s.heap [] := va_S.rf
  refine lv_aload_n hx hb dJ0_charAt_5068e_0 rfl (lv_at hl 0 rfl) ?_
  refine zc_call (H0 := s.heap) (Qz := zj_Q (some (.inl 1)) h) (va_runV (Ts := zc_tb) (C := RJ0) (As := []) (rest := []) ⟨hx, hb, hml, hown, hts⟩ (zj_isLatin1 hi hM l D ad adV cA A) ⟨callB_of 0 hts (zc_goodIn (fun w hw => by
    rcases List.mem_cons.mp hw with rfl | hw
    · exact zjw_16
    · exact hw)) rfl rfl rfl (hts _ zjw_4) (hts _ zjw_17) ⟨by decide, by decide, by decide +kernel⟩ ⟨Nat.le_of_ble_eq_true rfl, Nat.le_of_ble_eq_true rfl⟩, (hts _ zjw_18), (hts _ zjw_19)⟩ ⟨zc_blind, vk_recv hX.2.2.1 hi hS, fun U hU hW => ⟨rfl, by rw [hU]; exact hP, va_K.moved hW.alike hK, hD, by rw [hU]; exact (hX.warm hW).kept hS.2.1, fun q hq => hA q (by rw [hU] at hq; exact Nat.le_trans hS.1 hq)⟩⟩ rfl rfl hl.1 rfl (by show 2 * 0 + _ ≤ 8; decide) dJ0_charAt_5068e_1 ⟨Nat.zero_le _, Nat.zero_le _⟩) hS (fun rv h2 t H1 locs1 ht hvm hq hok hM2 hB hS => ?_)
  obtain ⟨rfl, hh⟩ := hq
  rw [hh] at hB
  obtain ⟨hP1, hK1, hD1⟩ := hB
  rw [ht] at hP1
  refine lv_if_eq (tgt := 16) (x := 1) (rest := []) hx hb dJ0_charAt_5068e_4 (by decide) (fun z => absurd z (by decide)) (fun _ => ?_)
  refine lv_aload_n hx hb dJ0_charAt_5068e_7 rfl (lv_at hl 0 rfl) ?_
  refine vk_getf hx hb (hX.2.2.1.1 i hi).2.2.1 hS hown (hts _ zjw_2) (fun _ z => z) dJ0_charAt_5068e_8 ?_
  refine lv_iload_n hx hb dJ0_charAt_5068e_11 rfl (lv_at hl 1 rfl) ?_
  refine zc_call (H0 := s.heap) (Qz := zj_Q (some (.inl ((zc_bS.getD i []).getD k.toNat 0).toInt)) h) (va_runS (Ts := zc_tb) (As := [.ref (adV i), .int (Int32.ofInt k)]) (rest := []) ⟨hx, hb, hml, hown, hts⟩ (zj_lcharAt hi h0 h1 hM l D ad adV cA A) ⟨callB_of 2 hts (zc_goodIn (fun w hw => by
    rcases List.mem_cons.mp hw with rfl | hw
    · exact zjw_20
    · exact hw)) rfl rfl rfl (hts _ zjw_21) (hts _ zjw_22) ⟨by decide, by decide, by decide +kernel⟩ ⟨Nat.le_of_ble_eq_true rfl, Nat.le_of_ble_eq_true rfl⟩, (hts _ zjw_23)⟩ ⟨zc_blind, fun U hU hW => ⟨rfl, by rw [hU]; exact hP1, va_K.moved hW.alike hK, hD1, by rw [hU]; exact (hX.warm hW).kept hS.2.1, fun q hq => hA q (by rw [hU] at hq; exact Nat.le_trans hS.1 hq)⟩⟩ rfl rfl hl.1 rfl (by show 2 * 0 + _ ≤ 8; decide) dJ0_charAt_5068e_12 ⟨Nat.zero_le _, Nat.zero_le _⟩) hS (fun rv h2 t H1 locs1 ht hvm hq hok hM2 hB hS => ?_)
  obtain ⟨rfl, hh2⟩ := hq
  rw [hh2] at hB
  obtain ⟨hP2, hK2, hD2⟩ := hB
  rw [ht] at hP2
  have hb8 : ∀ i, i < 13 → ∀ k, k < zc_lS.getD i 0 → narrow .char (.int ((zc_bS.getD i []).getD k 0)) = .int ((zc_bS.getD i []).getD k 0) := by decide +kernel
  have hv : zc_v ad (.inl ((zc_bS.getD i []).getD k.toNat 0).toInt) = .int ((zc_bS.getD i []).getD k.toNat 0) := by show Value.int (Int32.ofInt _) = _; rw [zc_oi]
  show W p l e _ s m _ below meth c H1 locs1 0 0 _ (F0 m 15 ls [zc_v ad (.inl ((zc_bS.getD i []).getD k.toNat 0).toInt)])
  rw [hv]
  refine W.zret (v := (zc_bS.getD i []).getD k.toNat 0) (ty := .char) hx hb hr (hb8 i hi k.toNat (by omega)) (fun t ht hW => ?_) hS.2.2 dJ0_charAt_5068e_15 hlocks
  have := zj_end (args := [.ref (ad (1000 + i)), .int (Int32.ofInt k)].toArray) (rv := some (.inl ((zc_bS.getD i []).getD k.toNat 0).toInt)) hM (fun v hv => by cases hv; exact zc_ri _) hP2 hD2 hK hS ht hW
  rw [Option.map_some, hv] at this
  exact this
theorem zc_Qc_mono {Q Q2 : zQ} {D : va_G} {ad : Nat → Nat} {cA : Nat → ClassId} {A : Nat → Prop} (h : ∀ rv h, Q rv h → Q2 rv h) {a : Array Value} {st : State} {oc : Outcome} {t : State} (hq : zc_Qc Q D ad cA A a st oc t) : zc_Qc Q2 D ad cA A a st oc t := by
  obtain ⟨⟨rv, h2, h3, ⟨h4, h5, h6⟩, h7⟩, h8⟩ := hq
  exact ⟨⟨rv, h2, h3, ⟨h _ _ h4, h5, h6⟩, h7⟩, h8⟩
theorem zMet_mono {l : Launch} {y : MethodName} {ws : List Cond} {rm : Room} {Pc : Array Value → State → Prop} {Qc Qc2 : Array Value → State → Outcome → State → Prop} {mc ms : Nat} {free : Addr → Prop} (h : ∀ a st o t, Qc a st o t → Qc2 a st o t) (hM : Met l y ws rm Pc Qc mc ms free) : Met l y ws rm Pc Qc2 mc ms free := by
  intro p e ha hc hk s m args below hf happ hP hK
  obtain ⟨n, o, h1, h2, h3, h4, h5⟩ := hM p e ha hc hk s m args below hf happ hP hK
  exact ⟨n, o, h1, h2, h3, h _ _ _ _ h4, h5⟩
/-- String.length of a constant text -/
theorem s_202 {i : Nat} (hi : i < 13) {h : zM} {Q : zQ} (hq : Q (some (.inl (zc_lS.getD i 0 : Nat))) h) : zR 202 [.inr (.inr (1000 + i))] h Q := by
  refine ⟨Or.inr ⟨_, _, rfl, ?_⟩, fun _ hM l D ad adV cA A => ?_⟩
  · have : ∀ i, i < 13 → zx_rcv 202 (1000 + i) = true := by decide +kernel
    exact this i hi
  · refine zMet_mono (fun a st o t hz => zc_Qc_mono (fun rv h2 hr => ?_) hz) (zj_length hi hM l D ad adV cA A)
    rw [hr.1, hr.2]
    exact hq
/-- String.charAt of a constant text -/
theorem s_203 {i : Nat} (hi : i < 13) {k : Int} (h0 : 0 ≤ k) (h1 : k < (zc_lS.getD i 0 : Nat)) {h : zM} {Q : zQ} (hq : Q (some (.inl ((zc_bS.getD i []).getD k.toNat 0).toInt)) h) : zR 203 [.inr (.inr (1000 + i)), .inl k] h Q := by
  refine ⟨Or.inr ⟨_, _, rfl, ?_⟩, fun _ hM l D ad adV cA A => ?_⟩
  · have : ∀ i, i < 13 → zx_rcv 203 (1000 + i) = true := by decide +kernel
    exact this i hi
  · refine zMet_mono (fun a st o t hz => zc_Qc_mono (fun rv h2 hr => ?_) hz) (zj_charAt hi h0 h1 hM l D ad adV cA A)
    rw [hr.1, hr.2]
    exact hq
end
section
/-! CONTRACTS: the class's small ones -/
theorem zQe {Q : zQ} {h : zM} {x y : Int} (e : y = x) (hq : Q (some (.inl x)) h) : Q (some (.inl y)) h := by rw [e]; exact hq
def zres (op x y : Int) : Int := if op = 0 then (if x + y < 99 then x + y else 99) else if op = 1 then (if 0 < x - y then x - y else 0) else if op = 2 then (if x = y then 1 else 0) else (if y < x then 1 else 0)
theorem zres_rng (op : Int) {x y : Int} (hx : 0 ≤ x ∧ x ≤ 99) (hy : 0 ≤ y ∧ y ≤ 99) : 0 ≤ zres op x y ∧ zres op x y ≤ 99 := by
  unfold zres
  (repeat' split) <;> omega
/-- the places of webs -/
def zWb (b : Nat) : Prop := b = 4 ∨ b = 12 ∨ b = 20 ∨ b = 28 ∨ b = 36
def zWn (b : Nat) : Int := if b = 36 then 40 else 8
def zWs (b : Nat) : Int := if b = 36 then 960 else 24
/-- a web's two counts -/
def zWk (h : zM) (b : Nat) : Prop := (0 ≤ h b 7 ∧ h b 7 ≤ zWn b) ∧ 0 ≤ h b 8 ∧ h b 8 ≤ zWs b
set_option maxHeartbeats 4000000 in
set_option maxRecDepth 100000 in
/-- C.isVariable -/
theorem s_38 {v : Int} {h : zM} {Q : zQ}  (h1 : 0 ≤ v ∧ v < 6 → Q (some (.inl 1)) h) (h0 : ¬ (0 ≤ v ∧ v < 6) → Q (some (.inl 0)) h) : zR 38 [.inl v] h Q := by
  refine zx_met0 zk_38 (Or.inl rfl) (Nat.le_of_ble_eq_true rfl) 1000 (fun hok hM => ?_)
  constructor
  · intro c1
    refine And.intro (by first | exact Or.inl rfl | exact Or.inr rfl | omega) ?_
    first | exact h1 (by omega) | exact h0 (by omega)
  · intro c1
    constructor
    · intro c2
      refine And.intro (by first | exact Or.inl rfl | exact Or.inr rfl | omega) ?_
      first | exact h1 (by omega) | exact h0 (by omega)
    · intro c2
      refine And.intro (by first | exact Or.inl rfl | exact Or.inr rfl | omega) ?_
      first | exact h1 (by omega) | exact h0 (by omega)
set_option maxHeartbeats 4000000 in
set_option maxRecDepth 100000 in
/-- C.isSheet -/
theorem s_40 {v : Int} {h : zM} {Q : zQ}  (h1 : 0 ≤ v ∧ v < 4 → Q (some (.inl 1)) h) (h0 : ¬ (0 ≤ v ∧ v < 4) → Q (some (.inl 0)) h) : zR 40 [.inl v] h Q := by
  refine zx_met0 zk_40 (Or.inl rfl) (Nat.le_of_ble_eq_true rfl) 1000 (fun hok hM => ?_)
  constructor
  · intro c1
    refine And.intro (by first | exact Or.inl rfl | exact Or.inr rfl | omega) ?_
    first | exact h1 (by omega) | exact h0 (by omega)
  · intro c1
    constructor
    · intro c2
      refine And.intro (by first | exact Or.inl rfl | exact Or.inr rfl | omega) ?_
      first | exact h1 (by omega) | exact h0 (by omega)
    · intro c2
      refine And.intro (by first | exact Or.inl rfl | exact Or.inr rfl | omega) ?_
      first | exact h1 (by omega) | exact h0 (by omega)
set_option maxHeartbeats 4000000 in
set_option maxRecDepth 100000 in
/-- C.isLane -/
theorem s_41 {v : Int} {h : zM} {Q : zQ}  (h1 : 0 ≤ v ∧ v < 3 → Q (some (.inl 1)) h) (h0 : ¬ (0 ≤ v ∧ v < 3) → Q (some (.inl 0)) h) : zR 41 [.inl v] h Q := by
  refine zx_met0 zk_41 (Or.inl rfl) (Nat.le_of_ble_eq_true rfl) 1000 (fun hok hM => ?_)
  constructor
  · intro c1
    refine And.intro (by first | exact Or.inl rfl | exact Or.inr rfl | omega) ?_
    first | exact h1 (by omega) | exact h0 (by omega)
  · intro c1
    constructor
    · intro c2
      refine And.intro (by first | exact Or.inl rfl | exact Or.inr rfl | omega) ?_
      first | exact h1 (by omega) | exact h0 (by omega)
    · intro c2
      refine And.intro (by first | exact Or.inl rfl | exact Or.inr rfl | omega) ?_
      first | exact h1 (by omega) | exact h0 (by omega)
set_option maxHeartbeats 4000000 in
set_option maxRecDepth 100000 in
/-- C.canBegin -/
theorem s_39 {v x : Int} {h : zM} {Q : zQ}  (h1 : (0 ≤ v ∧ v < 6) ∧ 0 ≤ x ∧ x ≤ 99 → Q (some (.inl 1)) h) (h0 : ¬ ((0 ≤ v ∧ v < 6) ∧ 0 ≤ x ∧ x ≤ 99) → Q (some (.inl 0)) h) : zR 39 [.inl v, .inl x] h Q := by
  refine zx_met0 zk_39 (Or.inl rfl) (Nat.le_of_ble_eq_true rfl) 1000 (fun hok hM => ?_)
  refine s_38 (fun cv => ?_) (fun cv => ?_)
  · refine And.intro (fun c => absurd c (by decide)) (fun _ => ?_)
    constructor
    · intro c1
      refine And.intro (by first | exact Or.inl rfl | exact Or.inr rfl | omega) ?_
      first | exact h1 (by omega) | exact h0 (by omega)
    · intro c1
      constructor
      · intro c2
        refine And.intro (by first | exact Or.inl rfl | exact Or.inr rfl | omega) ?_
        first | exact h1 (by omega) | exact h0 (by omega)
      · intro c2
        refine And.intro (by first | exact Or.inl rfl | exact Or.inr rfl | omega) ?_
        first | exact h1 (by omega) | exact h0 (by omega)
  · refine And.intro (fun _ => ?_) (fun c => absurd (by decide) c)
    refine And.intro (by first | exact Or.inl rfl | exact Or.inr rfl | omega) ?_
    first | exact h1 (by omega) | exact h0 (by omega)
set_option maxHeartbeats 4000000 in
set_option maxRecDepth 100000 in
/-- C.allBits -/
theorem s_42 {h : zM} {Q : zQ} (hq : Q (some (.inl 63)) h) : zR 42 [] h Q := by
  refine zx_met0 zk_42 (Or.inl rfl) (Nat.le_of_ble_eq_true rfl) 1000 (fun hok hM => ?_)
  exact hq
set_option maxHeartbeats 4000000 in
set_option maxRecDepth 100000 in
/-- C.hasBit -/
theorem s_43 {u v : Int} {h : zM} {Q : zQ} (h1 : ¬ zx_and (zx_shr u v) 1 = 0 → Q (some (.inl 1)) h) (h0 : zx_and (zx_shr u v) 1 = 0 → Q (some (.inl 0)) h) : zR 43 [.inl u, .inl v] h Q := by
  refine zx_met0 zk_43 (Or.inl rfl) (Nat.le_of_ble_eq_true rfl) 1000 (fun hok hM => ?_)
  constructor
  · intro c1
    refine And.intro (by first | exact Or.inl rfl | exact Or.inr rfl | omega) ?_
    first | exact h1 c1 | exact h0 c1
  · intro c1
    refine And.intro (by first | exact Or.inl rfl | exact Or.inr rfl | omega) ?_
    first | exact h1 c1 | exact h0 c1
set_option maxHeartbeats 4000000 in
set_option maxRecDepth 100000 in
/-- C.variableOf -/
theorem s_44 {o : Int} {h : zM} {Q : zQ} (ho : -1000 ≤ o ∧ o ≤ 1000) (h1 : 100 ≤ o ∧ o < 106 → Q (some (.inl (o - 100))) h) (h0 : ¬ (100 ≤ o ∧ o < 106) → Q (some (.inl (-4))) h) : zR 44 [.inl o] h Q := by
  refine zx_met0 zk_44 (Or.inl rfl) (Nat.le_of_ble_eq_true rfl) 1000 (fun hok hM => ?_)
  refine And.intro (by omega) ?_
  constructor
  · intro c1
    first | exact h1 (by omega) | exact h0 (by omega)
  · intro c1
    constructor
    · intro c2
      first | exact h1 (by omega) | exact h0 (by omega)
    · intro c2
      first | exact h1 (by omega) | exact h0 (by omega)
set_option maxHeartbeats 4000000 in
set_option maxRecDepth 100000 in
/-- C.bitOf -/
theorem s_45 {o : Int} {h : zM} {Q : zQ} (ho : -1000 ≤ o ∧ o ≤ 1000) (h1 : o < 100 → Q (some (.inl 0)) h) (h0 : ¬ (o < 100) → Q (some (.inl (zx_shl 1 (o - 100)))) h) : zR 45 [.inl o] h Q := by
  refine zx_met0 zk_45 (Or.inl rfl) (Nat.le_of_ble_eq_true rfl) 1000 (fun hok hM => ?_)
  constructor
  · intro c1
    first | exact h1 (by omega) | exact h0 (by omega)
  · intro c1
    refine And.intro (by omega) ?_
    first | exact h1 (by omega) | exact h0 (by omega)
set_option maxHeartbeats 4000000 in
set_option maxRecDepth 100000 in
/-- C.valueOf -/
theorem s_46 {r : Nat} (hr : r = 65 ∨ r = 67 ∨ r = 69) {o : Int} {h : zM} {Q : zQ} (ho : -1000 ≤ o ∧ o ≤ 1000) (h1 : 100 ≤ o ∧ o < 106 → Q (some (.inl (h r (o - 100)))) h) (h0 : ¬ (100 ≤ o ∧ o < 106) → Q (some (.inl o)) h) : zR 46 [.inl o, .inr (.inr r)] h Q := by
  rcases hr with rfl | rfl | rfl
  all_goals
    refine zx_met0 zk_46 (Or.inl rfl) (Nat.le_of_ble_eq_true rfl) 1000 (fun hok hM => ?_)
    refine s_44 (by omega) (fun cv => ?_) (fun cv => ?_)
    · constructor
      · intro c1
        first | exact h1 (by assumption) | exact h0 (by assumption) | exact h0 (by omega) | (exfalso; first | omega | exact absurd cv.2 (fun z => c1 (show _ < (6 : Int) by omega)) | exact c2 (show o - 100 < (6 : Int) by omega))
      · intro c1
        constructor
        · intro c2
          refine And.intro (by first | exact ⟨by omega, by omega⟩ | (show 0 ≤ _ ∧ _ < (8 : Int); omega) | (show 0 ≤ _ ∧ _ < (6 : Int); omega) | (show 0 ≤ _ ∧ _ < (40 : Int); omega) | (show 0 ≤ _ ∧ _ < (120 : Int); omega) | (show 0 ≤ _ ∧ _ < (4800 : Int); omega)) ?_
          first | exact h1 (by assumption) | exact h0 (by assumption) | exact h0 (by omega) | (exfalso; first | omega | exact absurd cv.2 (fun z => c1 (show _ < (6 : Int) by omega)) | exact c2 (show o - 100 < (6 : Int) by omega))
        · intro c2
          first | exact h1 (by assumption) | exact h0 (by assumption) | exact h0 (by omega) | (exfalso; first | omega | exact absurd cv.2 (fun z => c1 (show _ < (6 : Int) by omega)) | exact c2 (show o - 100 < (6 : Int) by omega))
    · refine And.intro (fun _ => ?_) (fun c => absurd (by decide) c)
      first | exact h1 (by assumption) | exact h0 (by assumption) | exact h0 (by omega) | (exfalso; first | omega | exact absurd cv.2 (fun z => c1 (show _ < (6 : Int) by omega)) | exact c2 (show o - 100 < (6 : Int) by omega))
set_option maxHeartbeats 4000000 in
set_option maxRecDepth 100000 in
/-- C.result -/
theorem s_47 {op x y : Int} {h : zM} {Q : zQ} (hx : 0 ≤ x ∧ x ≤ 99) (hy : 0 ≤ y ∧ y ≤ 99) (hq : Q (some (.inl (zres op x y))) h) : zR 47 [.inl op, .inl x, .inl y] h Q := by
  refine zx_met0 zk_47 (Or.inl rfl) (Nat.le_of_ble_eq_true rfl) 1000 (fun hok hM => ?_)
  constructor
  · intro c1
    refine And.intro (by omega) ?_
    refine zQe ?_ hq
    unfold zres
    (repeat' split) <;> omega
  · intro c1
    constructor
    · intro c2
      refine And.intro (by omega) ?_
      refine zQe ?_ hq
      unfold zres
      (repeat' split) <;> omega
    · intro c2
      constructor
      · intro c3
        constructor
        · intro c4
          refine zQe ?_ hq
          unfold zres
          (repeat' split) <;> omega
        · intro c4
          refine zQe ?_ hq
          unfold zres
          (repeat' split) <;> omega
      · intro c3
        constructor
        · intro c5
          refine zQe ?_ hq
          unfold zres
          (repeat' split) <;> omega
        · intro c5
          refine zQe ?_ hq
          unfold zres
          (repeat' split) <;> omega
set_option maxHeartbeats 4000000 in
set_option maxRecDepth 100000 in
/-- C.numberOrZero -/
theorem s_34 {o : Int} {h : zM} {Q : zQ} (hq : Q (some (.inl (if 0 ≤ o ∧ o < 100 then o else 0))) h) : zR 34 [.inl o] h Q := by
  refine zx_met0 zk_34 (Or.inl rfl) (Nat.le_of_ble_eq_true rfl) 1000 (fun hok hM => ?_)
  constructor
  · intro c1
    refine zQe ?_ hq
    (repeat' split) <;> omega
  · intro c1
    constructor
    · intro c2
      refine zQe ?_ hq
      (repeat' split) <;> omega
    · intro c2
      refine zQe ?_ hq
      (repeat' split) <;> omega
set_option maxHeartbeats 4000000 in
set_option maxRecDepth 100000 in
/-- C.nameOf -/
theorem s_48 {op : Int} {h : zM} {Q : zQ} (hq : Q (some (.inr (.inr (if op = 0 then 1003 else if op = 1 then 1004 else if op = 2 then 1005 else 1006)))) h) : zR 48 [.inl op] h Q := by
  refine zx_met0 zk_48 (Or.inl rfl) (Nat.le_of_ble_eq_true rfl) 1000 (fun hok hM => ?_)
  constructor
  · intro c1
    first | (simp only [*, if_true, if_false] at hq; exact hq) | (rw [if_pos (by assumption)] at hq; exact hq) | (rw [if_neg (by assumption), if_pos (by assumption)] at hq; exact hq) | (rw [if_neg (by assumption), if_neg (by assumption), if_pos (by assumption)] at hq; exact hq) | (rw [if_neg (by assumption), if_neg (by assumption), if_neg (by assumption)] at hq; exact hq)
  · intro c1
    constructor
    · intro c2
      first | (simp only [*, if_true, if_false] at hq; exact hq) | (rw [if_pos (by assumption)] at hq; exact hq) | (rw [if_neg (by assumption), if_pos (by assumption)] at hq; exact hq) | (rw [if_neg (by assumption), if_neg (by assumption), if_pos (by assumption)] at hq; exact hq) | (rw [if_neg (by assumption), if_neg (by assumption), if_neg (by assumption)] at hq; exact hq)
    · intro c2
      constructor
      · intro c3
        first | (simp only [*, if_true, if_false] at hq; exact hq) | (rw [if_pos (by assumption)] at hq; exact hq) | (rw [if_neg (by assumption), if_pos (by assumption)] at hq; exact hq) | (rw [if_neg (by assumption), if_neg (by assumption), if_pos (by assumption)] at hq; exact hq) | (rw [if_neg (by assumption), if_neg (by assumption), if_neg (by assumption)] at hq; exact hq)
      · intro c3
        first | (simp only [*, if_true, if_false] at hq; exact hq) | (rw [if_pos (by assumption)] at hq; exact hq) | (rw [if_neg (by assumption), if_pos (by assumption)] at hq; exact hq) | (rw [if_neg (by assumption), if_neg (by assumption), if_pos (by assumption)] at hq; exact hq) | (rw [if_neg (by assumption), if_neg (by assumption), if_neg (by assumption)] at hq; exact hq)
set_option maxHeartbeats 4000000 in
set_option maxRecDepth 100000 in
/-- Web.isPlace -/
theorem s_196 {b : Nat} (hb : zWb b) {p : Int} {h : zM} {Q : zQ} (h1 : 0 ≤ p ∧ p < h b 7 → Q (some (.inl 1)) h) (h0 : ¬ (0 ≤ p ∧ p < h b 7) → Q (some (.inl 0)) h) : zR 196 [.inr (.inr b), .inl p] h Q := by
  rcases hb with rfl | rfl | rfl | rfl | rfl
  all_goals
    refine zx_met0 zk_196 (Or.inr ⟨_, _, rfl, rfl⟩) (Nat.le_of_ble_eq_true rfl) 1000 (fun hok hM => ?_)
    constructor
    · intro c1
      refine And.intro (by first | exact Or.inl rfl | exact Or.inr rfl | omega) ?_
      first | exact h1 (by omega) | exact h0 (by omega)
    · intro c1
      constructor
      · intro c2
        refine And.intro (by first | exact Or.inl rfl | exact Or.inr rfl | omega) ?_
        first | exact h1 (by omega) | exact h0 (by omega)
      · intro c2
        refine And.intro (by first | exact Or.inl rfl | exact Or.inr rfl | omega) ?_
        first | exact h1 (by omega) | exact h0 (by omega)
set_option maxHeartbeats 4000000 in
set_option maxRecDepth 100000 in
/-- Web.clear -/
theorem s_191 {b : Nat} (hb : zWb b) {h : zM} {Q : zQ} (hq : Q none (zx_st (zx_st h b 7 0) b 8 0)) : zR 191 [.inr (.inr b)] h Q := by
  rcases hb with rfl | rfl | rfl | rfl | rfl
  all_goals
    refine zx_met0 zk_191 (Or.inr ⟨_, _, rfl, rfl⟩) (Nat.le_of_ble_eq_true rfl) 1000 (fun hok hM => ?_)
    exact hq
set_option maxHeartbeats 4000000 in
set_option maxRecDepth 100000 in
/-- Web.startSteps -/
theorem s_193 {b : Nat} (hb : zWb b) {p : Int} {h : zM} {Q : zQ} (hk : h b 7 ≤ zWn b) (h1 : 0 ≤ p ∧ p < h b 7 → Q none (zx_st (zx_st h (b + 1) p (h b 8)) (b + 2) p 0)) (h0 : ¬ (0 ≤ p ∧ p < h b 7) → Q none h) : zR 193 [.inr (.inr b), .inl p] h Q := by
  rcases hb with rfl | rfl | rfl | rfl | rfl <;> simp [zWn] at hk
  all_goals
    refine zx_met0 zk_193 (Or.inr ⟨_, _, rfl, rfl⟩) (Nat.le_of_ble_eq_true rfl) 1000 (fun hok hM => ?_)
    refine s_196 (by first | assumption | (unfold zWb; omega)) (fun cv => ?_) (fun cv => ?_)
    · refine And.intro (fun c => absurd c (by decide)) (fun _ => ?_)
      refine And.intro (by first | exact ⟨by omega, by omega⟩ | (show 0 ≤ _ ∧ _ < (8 : Int); omega) | (show 0 ≤ _ ∧ _ < (6 : Int); omega) | (show 0 ≤ _ ∧ _ < (40 : Int); omega) | (show 0 ≤ _ ∧ _ < (120 : Int); omega) | (show 0 ≤ _ ∧ _ < (4800 : Int); omega)) ?_
      refine And.intro (by first | exact ⟨by omega, by omega⟩ | (show 0 ≤ _ ∧ _ < (8 : Int); omega) | (show 0 ≤ _ ∧ _ < (6 : Int); omega) | (show 0 ≤ _ ∧ _ < (40 : Int); omega) | (show 0 ≤ _ ∧ _ < (120 : Int); omega) | (show 0 ≤ _ ∧ _ < (4800 : Int); omega)) ?_
      first | exact h1 (by omega) | exact h0 (by omega)
    · refine And.intro (fun _ => ?_) (fun c => absurd (by decide) c)
      first | exact h1 (by omega) | exact h0 (by omega)
set_option maxHeartbeats 4000000 in
set_option maxRecDepth 100000 in
/-- Web.close -/
theorem s_195 {b : Nat} (hb : zWb b) {p e x y v : Int} {h : zM} {Q : zQ} (hk : h b 7 ≤ zWn b) (h1 : 0 ≤ p ∧ p < h b 7 → Q none (zx_st (zx_st (zx_st (zx_st h (b + 3) p e) (b + 4) p x) (b + 5) p y) (b + 6) p v)) (h0 : ¬ (0 ≤ p ∧ p < h b 7) → Q none h) : zR 195 [.inr (.inr b), .inl p, .inl e, .inl x, .inl y, .inl v] h Q := by
  rcases hb with rfl | rfl | rfl | rfl | rfl <;> simp [zWn] at hk
  all_goals
    refine zx_met0 zk_195 (Or.inr ⟨_, _, rfl, rfl⟩) (Nat.le_of_ble_eq_true rfl) 1000 (fun hok hM => ?_)
    refine s_196 (by first | assumption | (unfold zWb; omega)) (fun cv => ?_) (fun cv => ?_)
    · refine And.intro (fun c => absurd c (by decide)) (fun _ => ?_)
      refine And.intro (by first | exact ⟨by omega, by omega⟩ | (show 0 ≤ _ ∧ _ < (8 : Int); omega) | (show 0 ≤ _ ∧ _ < (6 : Int); omega) | (show 0 ≤ _ ∧ _ < (40 : Int); omega) | (show 0 ≤ _ ∧ _ < (120 : Int); omega) | (show 0 ≤ _ ∧ _ < (4800 : Int); omega)) ?_
      refine And.intro (by first | exact ⟨by omega, by omega⟩ | (show 0 ≤ _ ∧ _ < (8 : Int); omega) | (show 0 ≤ _ ∧ _ < (6 : Int); omega) | (show 0 ≤ _ ∧ _ < (40 : Int); omega) | (show 0 ≤ _ ∧ _ < (120 : Int); omega) | (show 0 ≤ _ ∧ _ < (4800 : Int); omega)) ?_
      refine And.intro (by first | exact ⟨by omega, by omega⟩ | (show 0 ≤ _ ∧ _ < (8 : Int); omega) | (show 0 ≤ _ ∧ _ < (6 : Int); omega) | (show 0 ≤ _ ∧ _ < (40 : Int); omega) | (show 0 ≤ _ ∧ _ < (120 : Int); omega) | (show 0 ≤ _ ∧ _ < (4800 : Int); omega)) ?_
      refine And.intro (by first | exact ⟨by omega, by omega⟩ | (show 0 ≤ _ ∧ _ < (8 : Int); omega) | (show 0 ≤ _ ∧ _ < (6 : Int); omega) | (show 0 ≤ _ ∧ _ < (40 : Int); omega) | (show 0 ≤ _ ∧ _ < (120 : Int); omega) | (show 0 ≤ _ ∧ _ < (4800 : Int); omega)) ?_
      first | exact h1 (by omega) | exact h0 (by omega)
    · refine And.intro (fun _ => ?_) (fun c => absurd (by decide) c)
      first | exact h1 (by omega) | exact h0 (by omega)
set_option maxHeartbeats 4000000 in
set_option maxRecDepth 100000 in
/-- Web.stepPart -/
theorem s_199 {b : Nat} (hb : zWb b) {i w : Int} {h : zM} {Q : zQ} (hk : zWk h b) (h1 : (0 ≤ i ∧ i < h b 8) ∧ 0 ≤ w ∧ w < 5 → Q (some (.inl (h (b + 7) (i * 5 + w)))) h) (h0 : ¬ ((0 ≤ i ∧ i < h b 8) ∧ 0 ≤ w ∧ w < 5) → Q (some (.inl (-1))) h) : zR 199 [.inr (.inr b), .inl i, .inl w] h Q := by
  obtain ⟨-, hk⟩ := hk
  rcases hb with rfl | rfl | rfl | rfl | rfl <;> simp [zWs] at hk
  all_goals
    refine zx_met0 zk_199 (Or.inr ⟨_, _, rfl, rfl⟩) (Nat.le_of_ble_eq_true rfl) 1000 (fun hok hM => ?_)
    constructor
    · intro c1
      first | exact h1 (by omega) | exact h0 (by omega)
    · intro c1
      constructor
      · intro c2
        constructor
        · intro c3
          first | exact h1 (by omega) | exact h0 (by omega)
        · intro c3
          constructor
          · intro c4
            refine And.intro (by omega) ?_
            refine And.intro (by omega) ?_
            refine And.intro (by first | exact ⟨by omega, by omega⟩ | (show 0 ≤ _ ∧ _ < (8 : Int); omega) | (show 0 ≤ _ ∧ _ < (6 : Int); omega) | (show 0 ≤ _ ∧ _ < (40 : Int); omega) | (show 0 ≤ _ ∧ _ < (120 : Int); omega) | (show 0 ≤ _ ∧ _ < (4800 : Int); omega)) ?_
            first | exact h1 (by omega) | exact h0 (by omega)
          · intro c4
            first | exact h1 (by omega) | exact h0 (by omega)
      · intro c2
        first | exact h1 (by omega) | exact h0 (by omega)
set_option maxHeartbeats 4000000 in
set_option maxRecDepth 100000 in
/-- Web.setStepPart -/
theorem s_200 {b : Nat} (hb : zWb b) {i w v : Int} {h : zM} {Q : zQ} (hk : zWk h b) (h1 : (0 ≤ i ∧ i < h b 8) ∧ 0 ≤ w ∧ w < 5 → Q none (zx_st h (b + 7) (i * 5 + w) v)) (h0 : ¬ ((0 ≤ i ∧ i < h b 8) ∧ 0 ≤ w ∧ w < 5) → Q none h) : zR 200 [.inr (.inr b), .inl i, .inl w, .inl v] h Q := by
  obtain ⟨-, hk⟩ := hk
  rcases hb with rfl | rfl | rfl | rfl | rfl <;> simp [zWs] at hk
  all_goals
    refine zx_met0 zk_200 (Or.inr ⟨_, _, rfl, rfl⟩) (Nat.le_of_ble_eq_true rfl) 1000 (fun hok hM => ?_)
    constructor
    · intro c1
      first | exact h1 (by omega) | exact h0 (by omega)
    · intro c1
      constructor
      · intro c2
        constructor
        · intro c3
          first | exact h1 (by omega) | exact h0 (by omega)
        · intro c3
          constructor
          · intro c4
            refine And.intro (by omega) ?_
            refine And.intro (by omega) ?_
            refine And.intro (by first | exact ⟨by omega, by omega⟩ | (show 0 ≤ _ ∧ _ < (8 : Int); omega) | (show 0 ≤ _ ∧ _ < (6 : Int); omega) | (show 0 ≤ _ ∧ _ < (40 : Int); omega) | (show 0 ≤ _ ∧ _ < (120 : Int); omega) | (show 0 ≤ _ ∧ _ < (4800 : Int); omega)) ?_
            first | exact h1 (by omega) | exact h0 (by omega)
          · intro c4
            first | exact h1 (by omega) | exact h0 (by omega)
      · intro c2
        first | exact h1 (by omega) | exact h0 (by omega)
set_option maxHeartbeats 4000000 in
set_option maxRecDepth 100000 in
/-- Web.placePart -/
theorem s_197 {b : Nat} (hb : zWb b) {p w : Int} {h : zM} {Q : zQ} (hk : h b 7 ≤ zWn b) (h1 : (0 ≤ p ∧ p < h b 7) ∧ 1 ≤ w ∧ w ≤ 5 → Q (some (.inl (h (b + 1 + w.toNat) p))) h) (h0 : ¬ ((0 ≤ p ∧ p < h b 7) ∧ 1 ≤ w ∧ w ≤ 5) → Q (some (.inl (-1))) h) : zR 197 [.inr (.inr b), .inl p, .inl w] h Q := by
  rcases hb with rfl | rfl | rfl | rfl | rfl <;> simp [zWn] at hk
  all_goals
    refine zx_met0 zk_197 (Or.inr ⟨_, _, rfl, rfl⟩) (Nat.le_of_ble_eq_true rfl) 1000 (fun hok hM => ?_)
    refine s_196 (by first | assumption | (unfold zWb; omega)) (fun cv => ?_) (fun cv => ?_)
    · refine And.intro (fun c => absurd c (by decide)) (fun _ => ?_)
      constructor
      · intro c1
        refine And.intro (by first | exact ⟨by omega, by omega⟩ | (show 0 ≤ _ ∧ _ < (8 : Int); omega) | (show 0 ≤ _ ∧ _ < (6 : Int); omega) | (show 0 ≤ _ ∧ _ < (40 : Int); omega) | (show 0 ≤ _ ∧ _ < (120 : Int); omega) | (show 0 ≤ _ ∧ _ < (4800 : Int); omega)) ?_
        first | exact h0 (by omega) | (subst w; exact h1 (by omega))
      · intro c1
        constructor
        · intro c2
          refine And.intro (by first | exact ⟨by omega, by omega⟩ | (show 0 ≤ _ ∧ _ < (8 : Int); omega) | (show 0 ≤ _ ∧ _ < (6 : Int); omega) | (show 0 ≤ _ ∧ _ < (40 : Int); omega) | (show 0 ≤ _ ∧ _ < (120 : Int); omega) | (show 0 ≤ _ ∧ _ < (4800 : Int); omega)) ?_
          first | exact h0 (by omega) | (subst w; exact h1 (by omega))
        · intro c2
          constructor
          · intro c3
            refine And.intro (by first | exact ⟨by omega, by omega⟩ | (show 0 ≤ _ ∧ _ < (8 : Int); omega) | (show 0 ≤ _ ∧ _ < (6 : Int); omega) | (show 0 ≤ _ ∧ _ < (40 : Int); omega) | (show 0 ≤ _ ∧ _ < (120 : Int); omega) | (show 0 ≤ _ ∧ _ < (4800 : Int); omega)) ?_
            first | exact h0 (by omega) | (subst w; exact h1 (by omega))
          · intro c3
            constructor
            · intro c4
              refine And.intro (by first | exact ⟨by omega, by omega⟩ | (show 0 ≤ _ ∧ _ < (8 : Int); omega) | (show 0 ≤ _ ∧ _ < (6 : Int); omega) | (show 0 ≤ _ ∧ _ < (40 : Int); omega) | (show 0 ≤ _ ∧ _ < (120 : Int); omega) | (show 0 ≤ _ ∧ _ < (4800 : Int); omega)) ?_
              first | exact h0 (by omega) | (subst w; exact h1 (by omega))
            · intro c4
              constructor
              · intro c5
                refine And.intro (by first | exact ⟨by omega, by omega⟩ | (show 0 ≤ _ ∧ _ < (8 : Int); omega) | (show 0 ≤ _ ∧ _ < (6 : Int); omega) | (show 0 ≤ _ ∧ _ < (40 : Int); omega) | (show 0 ≤ _ ∧ _ < (120 : Int); omega) | (show 0 ≤ _ ∧ _ < (4800 : Int); omega)) ?_
                first | exact h0 (by omega) | (subst w; exact h1 (by omega))
              · intro c5
                first | exact h0 (by omega) | (subst w; exact h1 (by omega))
    · refine And.intro (fun _ => ?_) (fun c => absurd (by decide) c)
      first | exact h0 (by omega) | (subst w; exact h1 (by omega))
set_option maxHeartbeats 4000000 in
set_option maxRecDepth 100000 in
/-- Web.setPlacePart -/
theorem s_198 {b : Nat} (hb : zWb b) {p w v : Int} {h : zM} {Q : zQ} (hk : h b 7 ≤ zWn b) (h1 : (0 ≤ p ∧ p < h b 7) ∧ 3 ≤ w ∧ w ≤ 5 → Q none (zx_st h (b + 1 + w.toNat) p v)) (h0 : ¬ ((0 ≤ p ∧ p < h b 7) ∧ 3 ≤ w ∧ w ≤ 5) → Q none h) : zR 198 [.inr (.inr b), .inl p, .inl w, .inl v] h Q := by
  rcases hb with rfl | rfl | rfl | rfl | rfl <;> simp [zWn] at hk
  all_goals
    refine zx_met0 zk_198 (Or.inr ⟨_, _, rfl, rfl⟩) (Nat.le_of_ble_eq_true rfl) 1000 (fun hok hM => ?_)
    refine s_196 (by first | assumption | (unfold zWb; omega)) (fun cv => ?_) (fun cv => ?_)
    · refine And.intro (fun c => absurd c (by decide)) (fun _ => ?_)
      constructor
      · intro c1
        refine And.intro (by first | exact ⟨by omega, by omega⟩ | (show 0 ≤ _ ∧ _ < (8 : Int); omega) | (show 0 ≤ _ ∧ _ < (6 : Int); omega) | (show 0 ≤ _ ∧ _ < (40 : Int); omega) | (show 0 ≤ _ ∧ _ < (120 : Int); omega) | (show 0 ≤ _ ∧ _ < (4800 : Int); omega)) ?_
        first | exact h0 (by omega) | (subst w; exact h1 (by omega))
      · intro c1
        constructor
        · intro c2
          refine And.intro (by first | exact ⟨by omega, by omega⟩ | (show 0 ≤ _ ∧ _ < (8 : Int); omega) | (show 0 ≤ _ ∧ _ < (6 : Int); omega) | (show 0 ≤ _ ∧ _ < (40 : Int); omega) | (show 0 ≤ _ ∧ _ < (120 : Int); omega) | (show 0 ≤ _ ∧ _ < (4800 : Int); omega)) ?_
          first | exact h0 (by omega) | (subst w; exact h1 (by omega))
        · intro c2
          constructor
          · intro c3
            refine And.intro (by first | exact ⟨by omega, by omega⟩ | (show 0 ≤ _ ∧ _ < (8 : Int); omega) | (show 0 ≤ _ ∧ _ < (6 : Int); omega) | (show 0 ≤ _ ∧ _ < (40 : Int); omega) | (show 0 ≤ _ ∧ _ < (120 : Int); omega) | (show 0 ≤ _ ∧ _ < (4800 : Int); omega)) ?_
            first | exact h0 (by omega) | (subst w; exact h1 (by omega))
          · intro c3
            first | exact h0 (by omega) | (subst w; exact h1 (by omega))
    · refine And.intro (fun _ => ?_) (fun c => absurd (by decide) c)
      first | exact h0 (by omega) | (subst w; exact h1 (by omega))
end
section
/-! CONTRACTS: frames, tapes, sheets, rows -/
theorem zR_mono {j : Nat} {As : List zV} {h : zM} {Q Q2 : zQ} (hq : ∀ rv h, Q rv h → Q2 rv h) (hr : zR j As h Q) : zR j As h Q2 :=
  ⟨hr.1, fun a b l D ad adV cA A => zMet_mono (fun _ _ _ _ hz => zc_Qc_mono hq hz) (hr.2 a b l D ad adV cA A)⟩
/-- nothing changed but where f says so -/
def zF (f : Nat → Int → Bool) (h h2 : zM) : Prop := ∀ r k, f r k = false → h2 r k = h r k
theorem zF.rf {f : Nat → Int → Bool} {h : zM} : zF f h h := fun _ _ _ => rfl
theorem zF.tr {f : Nat → Int → Bool} {h h2 h3 : zM} (a : zF f h h2) (b : zF f h2 h3) : zF f h h3 := fun r k hf => (b r k hf).trans (a r k hf)
theorem zF.mono {f g : Nat → Int → Bool} {h h2 : zM} (hg : ∀ r k, g r k = false → f r k = false) (a : zF f h h2) : zF g h h2 := fun r k hf => a r k (hg r k hf)
theorem zF.row {f : Nat → Int → Bool} {h h2 : zM} (a : zF f h h2) (r : Nat) (hr : ∀ k, f r k = false) : h2 r = h r := funext fun k => a r k (hr k)
theorem zF.st {f : Nat → Int → Bool} {h h2 : zM} {r : Nat} {k v : Int} (a : zF f h h2) (hf : f r k = true) : zF f h (zx_st h2 r k v) := by
  intro r2 k2 h0
  show (if r2 = r ∧ k2 = k then v else h2 r2 k2) = _
  rw [if_neg, a r2 k2 h0]
  rintro ⟨rfl, rfl⟩
  rw [hf] at h0
  cases h0
theorem zst_eq (h : zM) (r : Nat) (k v : Int) : zx_st h r k v r k = v := if_pos ⟨rfl, rfl⟩
theorem zst_ne {h : zM} {r r2 : Nat} {k k2 v : Int} (hn : k2 ≠ k) : zx_st h r k v r2 k2 = h r2 k2 := if_neg (fun z => hn z.2)
theorem zst_nr {h : zM} {r r2 : Nat} {k k2 v : Int} (hn : r2 ≠ r) : zx_st h r k v r2 k2 = h r2 k2 := if_neg (fun z => hn z.1)
theorem zst_row {h : zM} {r r2 : Nat} {k v : Int} (hn : r2 ≠ r) : zx_st h r k v r2 = h r2 := funext fun _ => zst_nr hn
def zin : Nat → List Nat → Bool
  | _, [] => false
  | r, a :: l => Nat.beq r a || zin r l
/-- a row r, and fields ks of the place p -/
def zf_row (a : Nat) : Nat → Int → Bool := fun r _ => Nat.beq r a
/-- counting up: f 0, then f 1, .. -/
def zit {α : Type} (f : Nat → α → α) : Nat → α → α
  | 0, a => a
  | n + 1, a => f n (zit f n a)
/-- the places of sheets -/
def zSh (b : Nat) : Prop := b = 73 ∨ b = 75 ∨ b = 77 ∨ b = 79
set_option maxHeartbeats 4000000 in
set_option maxRecDepth 100000 in
/-- Tape.append -/
theorem s_189 {c : Int} {h : zM} {Q : zQ} (hc : 0 ≤ c ∧ c ≤ 127) (hl : 0 ≤ h 2 1 ∧ h 2 1 ≤ 320) (h1 : h 2 1 < 320 → Q (some (.inl 1)) (zx_st (zx_st h 3 (h 2 1) c) 2 1 (h 2 1 + 1))) (h0 : h 2 1 = 320 → Q (some (.inl 0)) h) : zR 189 [.inr (.inr 2), .inl c] h Q := by
  have l3 : zx_ln 3 = (320 : Int) := rfl
  refine zx_met0 zk_189 (Or.inr ⟨_, _, rfl, rfl⟩) (Nat.le_of_ble_eq_true rfl) 1000 (fun hok hM => ?_)
  constructor
  · intro c1
    refine And.intro (by first | omega | (simp [zx_st]; omega)) ?_
    refine And.intro (by show 0 ≤ _ ∧ _ < (320 : Int); omega) ?_
    refine And.intro (by first | omega | (simp [zx_st]; omega)) ?_
    refine And.intro (by first | omega | (simp [zx_st]; omega)) ?_
    refine And.intro (by first | exact Or.inl rfl | exact Or.inr rfl | omega) ?_
    first | exact h0 (by omega) | exact h1 (by omega)
  · intro c1
    refine And.intro (by first | exact Or.inl rfl | exact Or.inr rfl | omega) ?_
    first | exact h0 (by omega) | exact h1 (by omega)
set_option maxHeartbeats 4000000 in
set_option maxRecDepth 100000 in
/-- Tape.at -/
theorem s_190 {i : Int} {h : zM} {Q : zQ} (hl : 0 ≤ h 2 1 ∧ h 2 1 ≤ 320) (h1 : 0 ≤ i ∧ i < h 2 1 → Q (some (.inl (h 3 i))) h) (h0 : ¬ (0 ≤ i ∧ i < h 2 1) → Q (some (.inl (-4))) h) : zR 190 [.inr (.inr 2), .inl i] h Q := by
  have l3 : zx_ln 3 = (320 : Int) := rfl
  refine zx_met0 zk_190 (Or.inr ⟨_, _, rfl, rfl⟩) (Nat.le_of_ble_eq_true rfl) 1000 (fun hok hM => ?_)
  constructor
  · intro c1
    first | exact h1 (by omega) | exact h0 (by omega) | (exfalso; first | exact c3 (show i < (320 : Int) by omega) | exact absurd (show i < (320 : Int) by omega) (by assumption) | omega)
  · intro c1
    constructor
    · intro c2
      constructor
      · intro c3
        refine And.intro (by show 0 ≤ _ ∧ _ < (320 : Int); omega) ?_
        first | exact h1 (by omega) | exact h0 (by omega) | (exfalso; first | exact c3 (show i < (320 : Int) by omega) | exact absurd (show i < (320 : Int) by omega) (by assumption) | omega)
      · intro c3
        first | exact h1 (by omega) | exact h0 (by omega) | (exfalso; first | exact c3 (show i < (320 : Int) by omega) | exact absurd (show i < (320 : Int) by omega) (by assumption) | omega)
    · intro c2
      first | exact h1 (by omega) | exact h0 (by omega) | (exfalso; first | exact c3 (show i < (320 : Int) by omega) | exact absurd (show i < (320 : Int) by omega) (by assumption) | omega)
set_option maxHeartbeats 4000000 in
set_option maxRecDepth 100000 in
/-- Sheet.faultAt -/
theorem s_185 {b : Nat} (hb : zSh b) {i : Int} {h : zM} {Q : zQ} (h1 : h b 1 = -4 → Q (some (.inl 1)) h) (h2 : ¬ h b 1 = -4 → ¬ (0 ≤ i ∧ i < h b 2) → Q (some (.inl 2)) h) (h0 : ¬ h b 1 = -4 → 0 ≤ i ∧ i < h b 2 → Q (some (.inl 0)) h) : zR 185 [.inr (.inr b), .inl i] h Q := by
  have l74 : zx_ln 74 = (40 : Int) := rfl
  have l76 : zx_ln 76 = (40 : Int) := rfl
  have l78 : zx_ln 78 = (40 : Int) := rfl
  have l80 : zx_ln 80 = (40 : Int) := rfl
  rcases hb with rfl | rfl | rfl | rfl
  all_goals
    refine zx_met0 zk_185 (Or.inr ⟨_, _, rfl, rfl⟩) (Nat.le_of_ble_eq_true rfl) 1000 (fun hok hM => ?_)
    constructor
    · intro c1
      first | exact h1 (by omega) | exact h2 (by omega) (by omega) | exact h0 (by omega) (by omega)
    · intro c1
      constructor
      · intro c2
        first | exact h1 (by omega) | exact h2 (by omega) (by omega) | exact h0 (by omega) (by omega)
      · intro c2
        constructor
        · intro c3
          first | exact h1 (by omega) | exact h2 (by omega) (by omega) | exact h0 (by omega) (by omega)
        · intro c3
          first | exact h1 (by omega) | exact h2 (by omega) (by omega) | exact h0 (by omega) (by omega)
set_option maxHeartbeats 4000000 in
set_option maxRecDepth 100000 in
/-- Sheet.cellAt -/
theorem s_187 {b : Nat} (hb : zSh b) {i : Int} {h : zM} {Q : zQ} (hl : h b 2 ≤ 40) (h1 : ¬ h b 1 = -4 ∧ 0 ≤ i ∧ i < h b 2 → Q (some (.inl (h (b + 1) i))) h) (h0 : ¬ (¬ h b 1 = -4 ∧ 0 ≤ i ∧ i < h b 2) → Q (some (.inl 0)) h) : zR 187 [.inr (.inr b), .inl i] h Q := by
  have l74 : zx_ln 74 = (40 : Int) := rfl
  have l76 : zx_ln 76 = (40 : Int) := rfl
  have l78 : zx_ln 78 = (40 : Int) := rfl
  have l80 : zx_ln 80 = (40 : Int) := rfl
  rcases hb with rfl | rfl | rfl | rfl
  all_goals
    refine zx_met0 zk_187 (Or.inr ⟨_, _, rfl, rfl⟩) (Nat.le_of_ble_eq_true rfl) 1000 (fun hok hM => ?_)
    refine s_185 (by first | assumption | (unfold zSh; omega)) (fun d1 => ?_) (fun d1 d2 => ?_) (fun d1 d2 => ?_)
    · refine And.intro (fun c => absurd c (by decide)) (fun _ => ?_)
      first | exact h1 (by omega) | exact h0 (by omega)
    · refine And.intro (fun c => absurd c (by decide)) (fun _ => ?_)
      first | exact h1 (by omega) | exact h0 (by omega)
    · refine And.intro (fun _ => ?_) (fun c => absurd (by decide) c)
      refine And.intro (by show 0 ≤ _ ∧ _ < (40 : Int); omega) ?_
      first | exact h1 (by omega) | exact h0 (by omega)
set_option maxHeartbeats 4000000 in
set_option maxRecDepth 100000 in
/-- Sheet.faultOfPair -/
theorem s_186 {b : Nat} (hb : zSh b) {l i : Int} {h : zM} {Q : zQ} (hi : -2147483648 ≤ i ∧ i < 2147483647) (h3 : ¬ h b 1 = -4 → ¬ h b 1 = l → Q (some (.inl 3)) h) (h1 : h b 1 = -4 → Q (some (.inl 1)) h) (h2 : h b 1 = l → ¬ h b 1 = -4 → ¬ (0 ≤ i ∧ i + 1 < h b 2) → Q (some (.inl 2)) h) (h0 : h b 1 = l → ¬ h b 1 = -4 → 0 ≤ i ∧ i + 1 < h b 2 → Q (some (.inl 0)) h) : zR 186 [.inr (.inr b), .inl l, .inl i] h Q := by
  have l74 : zx_ln 74 = (40 : Int) := rfl
  have l76 : zx_ln 76 = (40 : Int) := rfl
  have l78 : zx_ln 78 = (40 : Int) := rfl
  have l80 : zx_ln 80 = (40 : Int) := rfl
  rcases hb with rfl | rfl | rfl | rfl
  all_goals
    refine zx_met0 zk_186 (Or.inr ⟨_, _, rfl, rfl⟩) (Nat.le_of_ble_eq_true rfl) 1000 (fun hok hM => ?_)
    constructor
    · intro c1
      refine s_185 (by first | assumption | (unfold zSh; omega)) (fun d1 => ?_) (fun d1 d2 => ?_) (fun d1 d2 => ?_)
      · refine And.intro (fun c => absurd c (by decide)) (fun _ => ?_)
        first | exact h1 (by omega) | exact h3 (by omega) (by omega) | exact h2 (by omega) (by omega) (by omega) | exact h0 (by omega) (by omega) (by omega) | (exfalso; omega)
      · refine And.intro (fun c => absurd c (by decide)) (fun _ => ?_)
        first | exact h1 (by omega) | exact h3 (by omega) (by omega) | exact h2 (by omega) (by omega) (by omega) | exact h0 (by omega) (by omega) (by omega) | (exfalso; omega)
      · refine And.intro (fun _ => ?_) (fun c => absurd (by decide) c)
        refine And.intro (by omega) ?_
        refine s_185 (by first | assumption | (unfold zSh; omega)) (fun d1 => ?_) (fun d1 d2 => ?_) (fun d1 d2 => ?_)
        · first | exact h1 (by omega) | exact h3 (by omega) (by omega) | exact h2 (by omega) (by omega) (by omega) | exact h0 (by omega) (by omega) (by omega) | (exfalso; omega)
        · first | exact h1 (by omega) | exact h3 (by omega) (by omega) | exact h2 (by omega) (by omega) (by omega) | exact h0 (by omega) (by omega) (by omega) | (exfalso; omega)
        · first | exact h1 (by omega) | exact h3 (by omega) (by omega) | exact h2 (by omega) (by omega) (by omega) | exact h0 (by omega) (by omega) (by omega) | (exfalso; omega)
    · intro c1
      constructor
      · intro c2
        refine s_185 (by first | assumption | (unfold zSh; omega)) (fun d1 => ?_) (fun d1 d2 => ?_) (fun d1 d2 => ?_)
        · refine And.intro (fun c => absurd c (by decide)) (fun _ => ?_)
          first | exact h1 (by omega) | exact h3 (by omega) (by omega) | exact h2 (by omega) (by omega) (by omega) | exact h0 (by omega) (by omega) (by omega) | (exfalso; omega)
        · refine And.intro (fun c => absurd c (by decide)) (fun _ => ?_)
          first | exact h1 (by omega) | exact h3 (by omega) (by omega) | exact h2 (by omega) (by omega) (by omega) | exact h0 (by omega) (by omega) (by omega) | (exfalso; omega)
        · refine And.intro (fun _ => ?_) (fun c => absurd (by decide) c)
          refine And.intro (by omega) ?_
          refine s_185 (by first | assumption | (unfold zSh; omega)) (fun d1 => ?_) (fun d1 d2 => ?_) (fun d1 d2 => ?_)
          · first | exact h1 (by omega) | exact h3 (by omega) (by omega) | exact h2 (by omega) (by omega) (by omega) | exact h0 (by omega) (by omega) (by omega) | (exfalso; omega)
          · first | exact h1 (by omega) | exact h3 (by omega) (by omega) | exact h2 (by omega) (by omega) (by omega) | exact h0 (by omega) (by omega) (by omega) | (exfalso; omega)
          · first | exact h1 (by omega) | exact h3 (by omega) (by omega) | exact h2 (by omega) (by omega) (by omega) | exact h0 (by omega) (by omega) (by omega) | (exfalso; omega)
      · intro c2
        first | exact h1 (by omega) | exact h3 (by omega) (by omega) | exact h2 (by omega) (by omega) (by omega) | exact h0 (by omega) (by omega) (by omega) | (exfalso; omega)
set_option maxHeartbeats 4000000 in
set_option maxRecDepth 100000 in
/-- Sheet.put -/
theorem s_188 {b : Nat} (hb : zSh b) {i v : Int} {h : zM} {Q : zQ} (hl : h b 2 ≤ 40) (h1 : ¬ h b 1 = -4 ∧ 0 ≤ i ∧ i < h b 2 → Q none (zx_st h (b + 1) i (if h b 1 = 0 then zx_b v else if h b 1 = 1 then zx_s v else v))) (h0 : ¬ (¬ h b 1 = -4 ∧ 0 ≤ i ∧ i < h b 2) → Q none h) : zR 188 [.inr (.inr b), .inl i, .inl v] h Q := by
  have l74 : zx_ln 74 = (40 : Int) := rfl
  have l76 : zx_ln 76 = (40 : Int) := rfl
  have l78 : zx_ln 78 = (40 : Int) := rfl
  have l80 : zx_ln 80 = (40 : Int) := rfl
  rcases hb with rfl | rfl | rfl | rfl
  all_goals
    refine zx_met0 zk_188 (Or.inr ⟨_, _, rfl, rfl⟩) (Nat.le_of_ble_eq_true rfl) 1000 (fun hok hM => ?_)
    refine s_185 (by first | assumption | (unfold zSh; omega)) (fun d1 => ?_) (fun d1 d2 => ?_) (fun d1 d2 => ?_)
    · refine And.intro (fun c => absurd c (by decide)) (fun _ => ?_)
      first | exact h0 (by omega) | (have hq := h1 (by omega); (first | (rw [if_pos (by omega)] at hq; exact hq) | (rw [if_neg (by omega), if_pos (by omega)] at hq; exact hq) | (rw [if_neg (by omega), if_neg (by omega)] at hq; exact hq))) | (exfalso; omega)
    · refine And.intro (fun c => absurd c (by decide)) (fun _ => ?_)
      first | exact h0 (by omega) | (have hq := h1 (by omega); (first | (rw [if_pos (by omega)] at hq; exact hq) | (rw [if_neg (by omega), if_pos (by omega)] at hq; exact hq) | (rw [if_neg (by omega), if_neg (by omega)] at hq; exact hq))) | (exfalso; omega)
    · refine And.intro (fun _ => ?_) (fun c => absurd (by decide) c)
      constructor
      · intro c1
        refine And.intro (by show 0 ≤ _ ∧ _ < (40 : Int); omega) ?_
        first | exact h0 (by omega) | (have hq := h1 (by omega); (first | (rw [if_pos (by omega)] at hq; exact hq) | (rw [if_neg (by omega), if_pos (by omega)] at hq; exact hq) | (rw [if_neg (by omega), if_neg (by omega)] at hq; exact hq))) | (exfalso; omega)
      · intro c1
        constructor
        · intro c2
          refine And.intro (by show 0 ≤ _ ∧ _ < (40 : Int); omega) ?_
          first | exact h0 (by omega) | (have hq := h1 (by omega); (first | (rw [if_pos (by omega)] at hq; exact hq) | (rw [if_neg (by omega), if_pos (by omega)] at hq; exact hq) | (rw [if_neg (by omega), if_neg (by omega)] at hq; exact hq))) | (exfalso; omega)
        · intro c2
          refine And.intro (by show 0 ≤ _ ∧ _ < (40 : Int); omega) ?_
          first | exact h0 (by omega) | (have hq := h1 (by omega); (first | (rw [if_pos (by omega)] at hq; exact hq) | (rw [if_neg (by omega), if_pos (by omega)] at hq; exact hq) | (rw [if_neg (by omega), if_neg (by omega)] at hq; exact hq))) | (exfalso; omega)
set_option maxHeartbeats 4000000 in
set_option maxRecDepth 100000 in
/-- Sheet.renew -/
theorem s_184 {b : Nat} (hb : zSh b) {l n : Int} {h : zM} {Q : zQ} (hn : 0 ≤ n ∧ n ≤ 40) (hq : ∀ h2, zF (fun r _ => Nat.beq r b || Nat.beq r (b + 1)) h h2 → h2 b 1 = l → h2 b 2 = n → (∀ i, 0 ≤ i → i < 40 → h2 (b + 1) i = 0) → Q none h2) : zR 184 [.inr (.inr b), .inl l, .inl n] h Q := by
  obtain ⟨B, hB⟩ : ∃ B, B = b := ⟨_, rfl⟩
  have l74 : zx_ln 74 = (40 : Int) := rfl
  have l76 : zx_ln 76 = (40 : Int) := rfl
  have l78 : zx_ln 78 = (40 : Int) := rfl
  have l80 : zx_ln 80 = (40 : Int) := rfl
  rcases hb with rfl | rfl | rfl | rfl
  all_goals
    refine zx_met zk_184 (Or.inr ⟨_, _, rfl, rfl⟩) (Nat.le_of_ble_eq_true rfl) (fun _ => false) 1000 (fun m i L S h2 => i = 14 ∧ S = [] ∧ ∃ k : Nat, L = [some (.inr (.inr B)), some (.inl l), some (.inl n), some (.inl (k : Int))] ∧ k ≤ 40 ∧ m = 40 - k ∧ zF (fun r _ => Nat.beq r B || Nat.beq r (B + 1)) h h2 ∧ h2 B 1 = l ∧ h2 B 2 = n ∧ ∀ i, 0 ≤ i → i < (k : Int) → h2 (B + 1) i = 0) (fun hok hM => ?_) (fun hok hM => ?_)
    · subst hB
      refine ⟨40, rfl, rfl, 0, rfl, by omega, rfl, (zF.rf.st rfl).st rfl, ?_, ?_, fun i h0 h1 => by omega⟩
      · rw [zst_ne (by decide), zst_eq]
      · rw [zst_eq]
        (repeat' split) <;> omega
    · subst hB
      rintro m i L S h2 hM2 ⟨rfl, rfl, k, rfl, hk, hm, hF, e1, e2, e3⟩
      constructor
      · intro c1
        have c1 : _ := c1
        refine And.intro (by show 0 ≤ _ ∧ _ < (40 : Int); omega) ?_
        refine And.intro (by omega) ?_
        have hk2 : (k : Int) < 40 := by omega
        refine ⟨40 - (k + 1), by omega, rfl, rfl, k + 1, rfl, by omega, rfl, hF.st rfl, ?_, ?_, fun i h0 h1 => ?_⟩
        · rw [zst_nr (by decide)]; exact e1
        · rw [zst_nr (by decide)]; exact e2
        · by_cases hi : i = (k : Int)
          · rw [hi]; exact zst_eq _ _ _ _
          · rw [zst_ne hi]; exact e3 i h0 (by omega)
      · intro c1
        have c1 : _ := c1
        have hk2 : (40 : Int) ≤ k := by omega
        exact hq h2 hF e1 e2 (fun i h0 h1 => e3 i h0 (by omega))
end
section
/-! CONTRACTS: rows copied, webs, programs -/
/-- webs that are copied, one to another -/
def zCw (b c : Nat) : Prop := (b = 4 ∧ c = 12) ∨ (b = 12 ∧ c = 20) ∨ (b = 12 ∧ c = 28) ∨ (b = 20 ∧ c = 12) ∨ (b = 28 ∧ c = 12)
/-- programs that are copied -/
def zCg (b c : Nat) : Prop := (b = 44 ∧ c = 46) ∨ (b = 44 ∧ c = 48) ∨ (b = 46 ∧ c = 44) ∨ (b = 48 ∧ c = 44)
theorem zF.cp {f : Nat → Int → Bool} {h h2 : zM} {a c : Nat} {sp dp n : Int} (x : zF f h h2) (hf : ∀ k, f c k = true) : zF f h (zx_cp h2 a sp c dp n) := by
  intro r2 k2 h0
  show (if r2 = c ∧ _ then _ else h2 r2 k2) = _
  rw [if_neg, x r2 k2 h0]
  rintro ⟨rfl, -⟩
  rw [hf] at h0
  cases h0
theorem zQh {Q : zQ} {h h2 : zM} {r : Option zV} (e : h = h2) (hq : Q r h2) : Q r h := by rw [e]; exact hq
def zCr (a c : Nat) (n : Int) : Prop := (a = 5 ∧ c = 13 ∧ n = 8) ∨ (a = 6 ∧ c = 14 ∧ n = 8) ∨ (a = 7 ∧ c = 15 ∧ n = 8) ∨ (a = 8 ∧ c = 16 ∧ n = 8) ∨ (a = 9 ∧ c = 17 ∧ n = 8) ∨ (a = 10 ∧ c = 18 ∧ n = 8) ∨ (a = 11 ∧ c = 19 ∧ n = 120) ∨ (a = 13 ∧ c = 21 ∧ n = 8) ∨ (a = 14 ∧ c = 22 ∧ n = 8) ∨ (a = 15 ∧ c = 23 ∧ n = 8) ∨ (a = 16 ∧ c = 24 ∧ n = 8) ∨ (a = 17 ∧ c = 25 ∧ n = 8) ∨ (a = 18 ∧ c = 26 ∧ n = 8) ∨ (a = 19 ∧ c = 27 ∧ n = 120) ∨ (a = 13 ∧ c = 29 ∧ n = 8) ∨ (a = 14 ∧ c = 30 ∧ n = 8) ∨ (a = 15 ∧ c = 31 ∧ n = 8) ∨ (a = 16 ∧ c = 32 ∧ n = 8) ∨ (a = 17 ∧ c = 33 ∧ n = 8) ∨ (a = 18 ∧ c = 34 ∧ n = 8) ∨ (a = 19 ∧ c = 35 ∧ n = 120) ∨ (a = 21 ∧ c = 13 ∧ n = 8) ∨ (a = 22 ∧ c = 14 ∧ n = 8) ∨ (a = 23 ∧ c = 15 ∧ n = 8) ∨ (a = 24 ∧ c = 16 ∧ n = 8) ∨ (a = 25 ∧ c = 17 ∧ n = 8) ∨ (a = 26 ∧ c = 18 ∧ n = 8) ∨ (a = 27 ∧ c = 19 ∧ n = 120) ∨ (a = 29 ∧ c = 13 ∧ n = 8) ∨ (a = 30 ∧ c = 14 ∧ n = 8) ∨ (a = 31 ∧ c = 15 ∧ n = 8) ∨ (a = 32 ∧ c = 16 ∧ n = 8) ∨ (a = 33 ∧ c = 17 ∧ n = 8) ∨ (a = 34 ∧ c = 18 ∧ n = 8) ∨ (a = 35 ∧ c = 19 ∧ n = 120) ∨ (a = 45 ∧ c = 47 ∧ n = 6) ∨ (a = 45 ∧ c = 49 ∧ n = 6) ∨ (a = 47 ∧ c = 45 ∧ n = 6) ∨ (a = 49 ∧ c = 45 ∧ n = 6)
set_option maxHeartbeats 4000000 in
set_option maxRecDepth 100000 in
/-- C.copyRow -/
theorem s_49 {a c : Nat} {n : Int} (hp : zCr a c n) {h : zM} {Q : zQ} (hq : Q none (zx_cp h a 0 c 0 n)) : zR 49 [.inr (.inr a), .inr (.inr c)] h Q := by
  rcases hp with ⟨rfl, rfl, rfl⟩ | ⟨rfl, rfl, rfl⟩ | ⟨rfl, rfl, rfl⟩ | ⟨rfl, rfl, rfl⟩ | ⟨rfl, rfl, rfl⟩ | ⟨rfl, rfl, rfl⟩ | ⟨rfl, rfl, rfl⟩ | ⟨rfl, rfl, rfl⟩ | ⟨rfl, rfl, rfl⟩ | ⟨rfl, rfl, rfl⟩ | ⟨rfl, rfl, rfl⟩ | ⟨rfl, rfl, rfl⟩ | ⟨rfl, rfl, rfl⟩ | ⟨rfl, rfl, rfl⟩ | ⟨rfl, rfl, rfl⟩ | ⟨rfl, rfl, rfl⟩ | ⟨rfl, rfl, rfl⟩ | ⟨rfl, rfl, rfl⟩ | ⟨rfl, rfl, rfl⟩ | ⟨rfl, rfl, rfl⟩ | ⟨rfl, rfl, rfl⟩ | ⟨rfl, rfl, rfl⟩ | ⟨rfl, rfl, rfl⟩ | ⟨rfl, rfl, rfl⟩ | ⟨rfl, rfl, rfl⟩ | ⟨rfl, rfl, rfl⟩ | ⟨rfl, rfl, rfl⟩ | ⟨rfl, rfl, rfl⟩ | ⟨rfl, rfl, rfl⟩ | ⟨rfl, rfl, rfl⟩ | ⟨rfl, rfl, rfl⟩ | ⟨rfl, rfl, rfl⟩ | ⟨rfl, rfl, rfl⟩ | ⟨rfl, rfl, rfl⟩ | ⟨rfl, rfl, rfl⟩ | ⟨rfl, rfl, rfl⟩ | ⟨rfl, rfl, rfl⟩ | ⟨rfl, rfl, rfl⟩ | ⟨rfl, rfl, rfl⟩
  all_goals
    refine zx_met0 zk_49 (Or.inl rfl) (Nat.le_of_ble_eq_true rfl) 1000 (fun hok hM => ?_)
    refine And.intro (⟨rfl, rfl, by decide, by decide, by decide +kernel, by decide +kernel, by decide +kernel⟩) ?_
    exact hq
set_option maxHeartbeats 4000000 in
set_option maxRecDepth 100000 in
/-- Web.copyFrom -/
theorem s_201 {b c : Nat} (hb : zCw b c) {h : zM} {Q : zQ} (hq : ∀ h2, zF (fun r _ => Nat.ble c r && Nat.ble r (c + 7)) h h2 → h2 c 7 = h b 7 → h2 c 8 = h b 8 → (∀ (w : Nat) (k : Int), w < 6 → 0 ≤ k → k < 8 → h2 (c + 1 + w) k = h (b + 1 + w) k) → (∀ k, 0 ≤ k → k < 120 → h2 (c + 7) k = h (b + 7) k) → Q none h2) : zR 201 [.inr (.inr c), .inr (.inr b)] h Q := by
  rcases hb with ⟨rfl, rfl⟩ | ⟨rfl, rfl⟩ | ⟨rfl, rfl⟩ | ⟨rfl, rfl⟩ | ⟨rfl, rfl⟩
  all_goals
    refine zx_met0 zk_201 (Or.inr ⟨_, _, rfl, rfl⟩) (Nat.le_of_ble_eq_true rfl) 1000 (fun hok hM => ?_)
    refine s_49 (n := 8) (by simp [zCr]) ?_
    refine s_49 (n := 8) (by simp [zCr]) ?_
    refine s_49 (n := 8) (by simp [zCr]) ?_
    refine s_49 (n := 8) (by simp [zCr]) ?_
    refine s_49 (n := 8) (by simp [zCr]) ?_
    refine s_49 (n := 8) (by simp [zCr]) ?_
    refine s_49 (n := 120) (by simp [zCr]) ?_
    refine hq _ ?_ rfl rfl ?_ ?_
    · refine (((((((zF.st ?_ rfl).cp fun _ => rfl).cp fun _ => rfl).cp fun _ => rfl).cp fun _ => rfl).cp fun _ => rfl).cp fun _ => rfl).cp fun _ => rfl
      exact zF.rf.st rfl
    · intro w k hw h0 h1
      have hw2 : w = 0 ∨ w = 1 ∨ w = 2 ∨ w = 3 ∨ w = 4 ∨ w = 5 := by omega
      rcases hw2 with rfl | rfl | rfl | rfl | rfl | rfl <;> simp [zx_cp, zx_st, h0, h1]
    · intro k h0 h1
      simp [zx_cp, zx_st, h0, h1]
set_option maxHeartbeats 4000000 in
set_option maxRecDepth 100000 in
/-- Program.forgetGiven -/
theorem s_160 {h : zM} {Q : zQ} (hq : ∀ h2, zF (fun r _ => Nat.beq r 44 || Nat.beq r 45) h h2 → h2 44 2 = 1 → (∀ k, 0 ≤ k → k < 6 → h2 45 k = -4) → Q none h2) : zR 160 [.inr (.inr 44)] h Q := by
  have l45 : zx_ln 45 = (6 : Int) := rfl
  refine zx_met zk_160 (Or.inr ⟨_, _, rfl, rfl⟩) (Nat.le_of_ble_eq_true rfl) (fun _ => false) 1000 (fun m i L S h2 => i = 2 ∧ S = [] ∧ ∃ k : Nat, L = [some (.inr (.inr 44)), some (.inl (k : Int))] ∧ k ≤ 6 ∧ m = 6 - k ∧ zF (fun r _ => Nat.beq r 44 || Nat.beq r 45) h h2 ∧ ∀ i, 0 ≤ i → i < (k : Int) → h2 45 i = -4) (fun hok hM => ?_) (fun hok hM => ?_)
  · exact ⟨6, rfl, rfl, 0, rfl, by omega, rfl, zF.rf, fun i h0 h1 => by omega⟩
  · rintro m i L S h2 hM2 ⟨rfl, rfl, k, rfl, hk, hm, hF, e3⟩
    constructor
    · intro c1
      refine And.intro (by show 0 ≤ _ ∧ _ < (6 : Int); omega) ?_
      refine And.intro (by omega) ?_
      refine ⟨6 - (k + 1), by omega, rfl, rfl, k + 1, rfl, by omega, rfl, hF.st rfl, fun i h0 h1 => ?_⟩
      by_cases hi : i = (k : Int)
      · rw [hi]; exact zst_eq _ _ _ _
      · rw [zst_ne hi]; exact e3 i h0 (by omega)
    · intro c1
      refine hq _ (hF.st rfl) (zst_eq _ _ _ _) (fun i h0 h1 => ?_)
      rw [zst_nr (by decide)]
      exact e3 i h0 (by omega)
/-- the GIVEN variables, as bits -/
def zgb (g : Int → Int) : Int := zit (fun v s => if g v < 0 then s else zx_or s (zx_shl 1 v)) 6 0
set_option maxHeartbeats 4000000 in
set_option maxRecDepth 100000 in
/-- Program.givenBits -/
theorem s_161 {h : zM} {Q : zQ} (hq : Q (some (.inl (zgb (h 45)))) h) : zR 161 [.inr (.inr 44)] h Q := by
  have l45 : zx_ln 45 = (6 : Int) := rfl
  refine zx_met zk_161 (Or.inr ⟨_, _, rfl, rfl⟩) (Nat.le_of_ble_eq_true rfl) (fun _ => false) 1000 (fun m i L S h2 => i = 4 ∧ S = [] ∧ h2 = h ∧ ∃ k : Nat, L = [some (.inr (.inr 44)), some (.inl (zit (fun v s => if h 45 v < 0 then s else zx_or s (zx_shl 1 v)) k 0)), some (.inl (k : Int))] ∧ k ≤ 6 ∧ m = 6 - k) (fun hok hM => ?_) (fun hok hM => ?_)
  · exact ⟨6, rfl, rfl, rfl, 0, rfl, by omega, rfl⟩
  · rintro m i L S h2 hM2 ⟨rfl, rfl, rfl, k, rfl, hk, hm⟩
    constructor
    · intro c1
      refine And.intro (by show 0 ≤ _ ∧ _ < (6 : Int); omega) ?_
      constructor
      · intro c2
        refine And.intro (by omega) ?_
        refine ⟨6 - (k + 1), by omega, rfl, rfl, rfl, k + 1, ?_, by omega, rfl⟩
        first | (rw [zit, if_pos (by assumption)]; rfl) | (rw [zit, if_neg (by assumption)]; rfl)
      · intro c2
        refine And.intro (by omega) ?_
        refine ⟨6 - (k + 1), by omega, rfl, rfl, rfl, k + 1, ?_, by omega, rfl⟩
        first | (rw [zit, if_pos (by assumption)]; rfl) | (rw [zit, if_neg (by assumption)]; rfl)
    · intro c1
      have hk6 : k = 6 := by omega
      subst hk6
      exact hq
def zwb (b : Nat) : Nat := if b = 44 then 12 else if b = 46 then 20 else 28
set_option maxHeartbeats 4000000 in
set_option maxRecDepth 100000 in
/-- Program.copyFrom -/
theorem s_162 {b c : Nat} (hb : zCg b c) {h : zM} {Q : zQ} (hq : ∀ h2, zF (fun r _ => (Nat.ble (zwb c) r && Nat.ble r (zwb c + 7)) || Nat.beq r c || Nat.beq r (c + 1)) h h2 → h2 (zwb c) 7 = h (zwb b) 7 → h2 (zwb c) 8 = h (zwb b) 8 → (∀ (w : Nat) (k : Int), w < 6 → 0 ≤ k → k < 8 → h2 (zwb c + 1 + w) k = h (zwb b + 1 + w) k) → (∀ k, 0 ≤ k → k < 120 → h2 (zwb c + 7) k = h (zwb b + 7) k) → (∀ k, 0 ≤ k → k < 6 → h2 (c + 1) k = h (b + 1) k) → h2 c 2 = h b 2 → Q none h2) : zR 162 [.inr (.inr c), .inr (.inr b)] h Q := by
  rcases hb with ⟨rfl, rfl⟩ | ⟨rfl, rfl⟩ | ⟨rfl, rfl⟩ | ⟨rfl, rfl⟩
  all_goals
    refine zx_met0 zk_162 (Or.inr ⟨_, _, rfl, rfl⟩) (Nat.le_of_ble_eq_true rfl) 1000 (fun hok hM => ?_)
    refine s_201 (by unfold zCw; omega) (fun h2 hF e7 e8 eb es => ?_)
    refine s_49 (n := 6) (by simp [zCr]) ?_
    refine hq _ ?_ e7 e8 (fun w k hw h0 h1 => ?_) (fun k h0 h1 => ?_) (fun k h0 h1 => ?_) ?_
    · refine zF.st (zF.cp (hF.mono ?_) fun _ => rfl) rfl
      intro r k hf
      simp only [Bool.or_eq_false_iff] at hf
      exact hf.1.1
    · have := eb w k hw h0 h1
      rw [zst_nr (by simp [zwb]; omega)]
      refine Eq.trans ?_ this
      exact if_neg (by simp [zwb]; omega)
    · exact es k h0 h1
    · rw [zst_nr (by decide)]
      have := hF 45 k rfl
      simp [zx_cp, h0, h1]
      exact hF _ k rfl
    · rw [zst_eq]
      exact hF _ 2 rfl
set_option maxHeartbeats 4000000 in
set_option maxRecDepth 100000 in
/-- Program.become -/
theorem s_159 {h : zM} {Q : zQ} (hq : ∀ h2, zF (fun r _ => (Nat.ble 12 r && Nat.ble r 19) || Nat.beq r 44 || Nat.beq r 45) h h2 → h2 12 7 = h 4 7 → h2 12 8 = h 4 8 → (∀ (w : Nat) (k : Int), w < 6 → 0 ≤ k → k < 8 → h2 (13 + w) k = h (5 + w) k) → (∀ k, 0 ≤ k → k < 120 → h2 19 k = h 11 k) → h2 44 2 = 1 → (∀ k, 0 ≤ k → k < 6 → h2 45 k = -4) → Q none h2) : zR 159 [.inr (.inr 44), .inr (.inr 4)] h Q := by
  refine zx_met0 zk_159 (Or.inr ⟨_, _, rfl, rfl⟩) (Nat.le_of_ble_eq_true rfl) 1000 (fun hok hM => ?_)
  refine s_201 (by unfold zCw; omega) (fun h2 hF e7 e8 eb es => ?_)
  refine s_160 (fun h3 hG eW eg => ?_)
  refine hq _ ?_ ((hG 12 7 rfl).trans e7) ((hG 12 8 rfl).trans e8) (fun w k hw h0 h1 => ?_) (fun k h0 h1 => (hG 19 k rfl).trans (es k h0 h1)) eW eg
  · refine (hF.mono ?_).tr (hG.mono ?_)
    · intro r k hf
      simp only [Bool.or_eq_false_iff] at hf
      exact hf.1.1
    · intro r k hf
      simp only [Bool.or_eq_false_iff] at hf ⊢
      exact ⟨hf.1.2, hf.2⟩
  · refine Eq.trans (hG _ k ?_) (eb w k hw h0 h1)
    have hw2 : w = 0 ∨ w = 1 ∨ w = 2 ∨ w = 3 ∨ w = 4 ∨ w = 5 := by omega
    rcases hw2 with rfl | rfl | rfl | rfl | rfl | rfl <;> rfl
end
section
/-! CONTRACTS: the reference's small ones; sums -/
theorem zlc_lt (x y : Int) : zx_lcmp x y < 0 ↔ x < y := by
  unfold zx_lcmp
  (repeat' split) <;> omega
theorem zlc_gt (x y : Int) : 0 < zx_lcmp x y ↔ y < x := by
  unfold zx_lcmp
  (repeat' split) <;> omega
/-- bit v of u -/
def zbit (u v : Int) : Prop := ¬ zx_and (zx_shr u v) 1 = 0
theorem zand1 (x : Int) : zx_and x 1 = 0 ∨ zx_and x 1 = 1 := by
  unfold zx_and
  have e : (Int32.ofInt x &&& Int32.ofInt 1) = 0 ∨ (Int32.ofInt x &&& Int32.ofInt 1) = 1 := by
    generalize Int32.ofInt x = y
    have : ∀ b : BitVec 32, b &&& 1#32 = 0#32 ∨ b &&& 1#32 = 1#32 := by
      intro b
      by_cases hb : b.getLsbD 0 = true
      · right
        apply BitVec.eq_of_getLsbD_eq
        intro i hi
        rw [BitVec.getLsbD_and]
        by_cases h0 : i = 0
        · subst h0; rw [hb]; rfl
        · simp [h0]
      · left
        apply BitVec.eq_of_getLsbD_eq
        intro i hi
        rw [BitVec.getLsbD_and]
        by_cases h0 : i = 0
        · subst h0; rw [Bool.eq_false_iff.mpr hb]; rfl
        · simp [h0]
    rcases this y.toBitVec with h | h
    · left; exact Int32.toBitVec_inj.mp h
    · right; exact Int32.toBitVec_inj.mp h
  rcases e with e | e
  · left; rw [e]; decide
  · right; rw [e]; decide
theorem zbit1 {u v : Int} : zx_and (zx_shr u v) 1 = 1 ↔ zbit u v := by
  unfold zbit
  have := zand1 (zx_shr u v)
  omega
theorem zbit0 {u v : Int} : zx_and (zx_shr u v) 1 = 0 ↔ ¬ zbit u v := by
  unfold zbit
  omega
set_option maxHeartbeats 4000000 in
set_option maxRecDepth 100000 in
/-- M.in -/
theorem s_50 {v l u : Int} {h : zM} {Q : zQ} (h1 : l ≤ v ∧ v ≤ u → Q (some (.inl 1)) h) (h0 : ¬ (l ≤ v ∧ v ≤ u) → Q (some (.inl 0)) h) : zR 50 [.inr (.inl v), .inr (.inl l), .inr (.inl u)] h Q := by
  refine zx_met0 zk_50 (Or.inl rfl) (Nat.le_of_ble_eq_true rfl) 1000 (fun hok hM => ?_)
  constructor
  · intro c1
    refine And.intro (by first | exact Or.inl rfl | exact Or.inr rfl | omega) ?_
    simp only [zlc_lt, zlc_gt] at *
    first | exact h1 (by omega) | exact h0 (by omega)
  · intro c1
    constructor
    · intro c2
      refine And.intro (by first | exact Or.inl rfl | exact Or.inr rfl | omega) ?_
      simp only [zlc_lt, zlc_gt] at *
      first | exact h1 (by omega) | exact h0 (by omega)
    · intro c2
      refine And.intro (by first | exact Or.inl rfl | exact Or.inr rfl | omega) ?_
      simp only [zlc_lt, zlc_gt] at *
      first | exact h1 (by omega) | exact h0 (by omega)
set_option maxHeartbeats 4000000 in
set_option maxRecDepth 100000 in
/-- M.isVariable -/
theorem s_85 {v : Int} {h : zM} {Q : zQ}  (h1 : 0 ≤ v ∧ v < 6 → Q (some (.inl 1)) h) (h0 : ¬ (0 ≤ v ∧ v < 6) → Q (some (.inl 0)) h) : zR 85 [.inl v] h Q := by
  refine zx_met0 zk_85 (Or.inl rfl) (Nat.le_of_ble_eq_true rfl) 1000 (fun hok hM => ?_)
  refine s_50 (fun cv => ?_) (fun cv => ?_)
  · refine And.intro (by first | exact Or.inl rfl | exact Or.inr rfl | omega) ?_
    first | exact h1 (by omega) | exact h0 (by omega)
  · refine And.intro (by first | exact Or.inl rfl | exact Or.inr rfl | omega) ?_
    first | exact h1 (by omega) | exact h0 (by omega)
set_option maxHeartbeats 4000000 in
set_option maxRecDepth 100000 in
/-- M.isOperand -/
theorem s_121 {v : Int} {h : zM} {Q : zQ}  (h1 : 0 ≤ v ∧ v < 106 → Q (some (.inl 1)) h) (h0 : ¬ (0 ≤ v ∧ v < 106) → Q (some (.inl 0)) h) : zR 121 [.inl v] h Q := by
  refine zx_met0 zk_121 (Or.inl rfl) (Nat.le_of_ble_eq_true rfl) 1000 (fun hok hM => ?_)
  refine s_50 (fun cv => ?_) (fun cv => ?_)
  · refine And.intro (fun c => absurd c (by decide)) (fun _ => ?_)
    refine And.intro (by first | exact Or.inl rfl | exact Or.inr rfl | omega) ?_
    first | exact h1 (by omega) | exact h0 (by omega)
  · refine And.intro (fun _ => ?_) (fun c => absurd (by decide) c)
    refine s_50 (fun cv => ?_) (fun cv => ?_)
    · refine And.intro (fun c => absurd c (by decide)) (fun _ => ?_)
      refine And.intro (by first | exact Or.inl rfl | exact Or.inr rfl | omega) ?_
      first | exact h1 (by omega) | exact h0 (by omega)
    · refine And.intro (fun _ => ?_) (fun c => absurd (by decide) c)
      refine And.intro (by first | exact Or.inl rfl | exact Or.inr rfl | omega) ?_
      first | exact h1 (by omega) | exact h0 (by omega)
set_option maxHeartbeats 4000000 in
set_option maxRecDepth 100000 in
/-- M.isBlock -/
theorem s_83 {v : Int} {h : zM} {Q : zQ} (hb : 0 ≤ h 82 175 ∧ h 82 175 ≤ 8) (h1 : 0 ≤ v ∧ v < h 82 175 → Q (some (.inl 1)) h) (h0 : ¬ (0 ≤ v ∧ v < h 82 175) → Q (some (.inl 0)) h) : zR 83 [.inr (.inr 81), .inl v] h Q := by
  have l82 : zx_ln 82 = (708 : Int) := rfl
  refine zx_met0 zk_83 (Or.inr ⟨_, _, rfl, rfl⟩) (Nat.le_of_ble_eq_true rfl) 1000 (fun hok hM => ?_)
  refine And.intro (by omega) ?_
  refine And.intro (by omega) ?_
  refine s_50 (fun cv => ?_) (fun cv => ?_)
  · refine And.intro (by first | exact Or.inl rfl | exact Or.inr rfl | omega) ?_
    first | exact h1 (by omega) | exact h0 (by omega)
  · refine And.intro (by first | exact Or.inl rfl | exact Or.inr rfl | omega) ?_
    first | exact h1 (by omega) | exact h0 (by omega)
set_option maxHeartbeats 4000000 in
set_option maxRecDepth 100000 in
/-- M.isStep -/
theorem s_84 {v : Int} {h : zM} {Q : zQ} (hb : 0 ≤ h 82 176 ∧ h 82 176 ≤ 24) (h1 : 0 ≤ v ∧ v < h 82 176 → Q (some (.inl 1)) h) (h0 : ¬ (0 ≤ v ∧ v < h 82 176) → Q (some (.inl 0)) h) : zR 84 [.inr (.inr 81), .inl v] h Q := by
  have l82 : zx_ln 82 = (708 : Int) := rfl
  refine zx_met0 zk_84 (Or.inr ⟨_, _, rfl, rfl⟩) (Nat.le_of_ble_eq_true rfl) 1000 (fun hok hM => ?_)
  refine And.intro (by omega) ?_
  refine And.intro (by omega) ?_
  refine s_50 (fun cv => ?_) (fun cv => ?_)
  · refine And.intro (by first | exact Or.inl rfl | exact Or.inr rfl | omega) ?_
    first | exact h1 (by omega) | exact h0 (by omega)
  · refine And.intro (by first | exact Or.inl rfl | exact Or.inr rfl | omega) ?_
    first | exact h1 (by omega) | exact h0 (by omega)
set_option maxHeartbeats 4000000 in
set_option maxRecDepth 100000 in
/-- M.byteAt -/
theorem s_53 {k : Int} {h : zM} {Q : zQ} (hk : 0 ≤ k) (ht : h 81 2 ≤ 320) (h1 : k < h 81 2 → Q (some (.inl (h 83 k))) h) (h0 : ¬ k < h 81 2 → Q (some (.inl (-4))) h) : zR 53 [.inr (.inr 81), .inl k] h Q := by
  have l83 : zx_ln 83 = (320 : Int) := rfl
  refine zx_met0 zk_53 (Or.inr ⟨_, _, rfl, rfl⟩) (Nat.le_of_ble_eq_true rfl) 1000 (fun hok hM => ?_)
  constructor
  · intro c1
    refine And.intro (by omega) ?_
    first | exact h1 (by omega) | exact h0 (by omega)
  · intro c1
    first | exact h1 (by omega) | exact h0 (by omega)
set_option maxHeartbeats 4000000 in
set_option maxRecDepth 100000 in
/-- M.fails -/
theorem s_54 {c : Int} {h : zM} {Q : zQ} (h1 : h 81 4 = 0 → Q none (zx_st (zx_st h 81 4 c) 81 5 (h 81 7))) (h0 : ¬ h 81 4 = 0 → Q none h) : zR 54 [.inr (.inr 81), .inl c] h Q := by
  refine zx_met0 zk_54 (Or.inr ⟨_, _, rfl, rfl⟩) (Nat.le_of_ble_eq_true rfl) 1000 (fun hok hM => ?_)
  constructor
  · intro c1
    first | exact h1 (by assumption) | exact h0 (by assumption)
  · intro c1
    first | exact h1 (by assumption) | exact h0 (by assumption)
set_option maxHeartbeats 4000000 in
set_option maxRecDepth 100000 in
/-- M.fault -/
theorem s_66 {h : zM} {Q : zQ} (hq : Q (some (.inl (h 81 3))) h) : zR 66 [.inr (.inr 81)] h Q := by
  refine zx_met0 zk_66 (Or.inr ⟨_, _, rfl, rfl⟩) (Nat.le_of_ble_eq_true rfl) 1000 (fun hok hM => ?_)
  exact hq
set_option maxHeartbeats 4000000 in
set_option maxRecDepth 100000 in
/-- M.torn -/
theorem s_130 {h : zM} {Q : zQ} (hq : Q (some (.inl (h 81 45))) h) : zR 130 [.inr (.inr 81)] h Q := by
  refine zx_met0 zk_130 (Or.inr ⟨_, _, rfl, rfl⟩) (Nat.le_of_ble_eq_true rfl) 1000 (fun hok hM => ?_)
  exact hq
set_option maxHeartbeats 4000000 in
set_option maxRecDepth 100000 in
/-- C.fault -/
theorem s_3 {h : zM} {Q : zQ} (hq : Q (some (.inl (h 1 2))) h) : zR 3 [.inr (.inr 0)] h Q := by
  refine zx_met0 zk_3 (Or.inr ⟨_, _, rfl, rfl⟩) (Nat.le_of_ble_eq_true rfl) 1000 (fun hok hM => ?_)
  exact hq
set_option maxHeartbeats 4000000 in
set_option maxRecDepth 100000 in
/-- C.torn -/
theorem s_26 {h : zM} {Q : zQ} (hq : Q (some (.inl (h 0 13))) h) : zR 26 [.inr (.inr 0)] h Q := by
  refine zx_met0 zk_26 (Or.inr ⟨_, _, rfl, rfl⟩) (Nat.le_of_ble_eq_true rfl) 1000 (fun hok hM => ?_)
  exact hq
set_option maxHeartbeats 4000000 in
set_option maxRecDepth 100000 in
/-- M.bitOf -/
theorem s_70 {o : Int} {h : zM} {Q : zQ} (ho : -1000 ≤ o ∧ o ≤ 1000) (h1 : o < 100 → Q (some (.inl 0)) h) (h0 : ¬ (o < 100) → Q (some (.inl (zx_shl 1 (o - 100)))) h) : zR 70 [.inl o] h Q := by
  refine zx_met0 zk_70 (Or.inl rfl) (Nat.le_of_ble_eq_true rfl) 1000 (fun hok hM => ?_)
  constructor
  · intro c1
    first | exact h1 (by omega) | exact h0 (by omega)
  · intro c1
    refine And.intro (by omega) ?_
    first | exact h1 (by omega) | exact h0 (by omega)
set_option maxHeartbeats 4000000 in
set_option maxRecDepth 100000 in
/-- M.isUnknown -/
theorem s_68 {o : Int} {h : zM} {Q : zQ} (ho : -1000 ≤ o ∧ o ≤ 1000) (h1 : 100 ≤ o ∧ zbit (h 81 12) (o - 100) → Q (some (.inl 1)) h) (h0 : ¬ (100 ≤ o ∧ zbit (h 81 12) (o - 100)) → Q (some (.inl 0)) h) : zR 68 [.inr (.inr 81), .inl o] h Q := by
  refine zx_met0 zk_68 (Or.inr ⟨_, _, rfl, rfl⟩) (Nat.le_of_ble_eq_true rfl) 1000 (fun hok hM => ?_)
  constructor
  · intro c1
    refine And.intro (by first | exact Or.inl rfl | exact Or.inr rfl | omega) ?_
    first | exact h0 (by omega) | exact h1 ⟨by omega, zbit1.mp (by assumption)⟩ | exact h0 (fun z => by have := zbit1.mpr z.2; contradiction)
  · intro c1
    refine And.intro (by omega) ?_
    constructor
    · intro c2
      refine And.intro (by first | exact Or.inl rfl | exact Or.inr rfl | omega) ?_
      first | exact h0 (by omega) | exact h1 ⟨by omega, zbit1.mp (by assumption)⟩ | exact h0 (fun z => by have := zbit1.mpr z.2; contradiction)
    · intro c2
      refine And.intro (by first | exact Or.inl rfl | exact Or.inr rfl | omega) ?_
      first | exact h0 (by omega) | exact h1 ⟨by omega, zbit1.mp (by assumption)⟩ | exact h0 (fun z => by have := zbit1.mpr z.2; contradiction)
set_option maxHeartbeats 4000000 in
set_option maxRecDepth 100000 in
/-- M.numberIn -/
theorem s_76 {o : Int} {h : zM} {Q : zQ} (ho : 0 ≤ o ∧ o < 106) (h1 : o < 100 → Q (some (.inl o)) h) (h0 : ¬ o < 100 → Q (some (.inl (h 95 (o - 100)))) h) : zR 76 [.inr (.inr 81), .inl o] h Q := by
  have l95 : zx_ln 95 = (6 : Int) := rfl
  refine zx_met0 zk_76 (Or.inr ⟨_, _, rfl, rfl⟩) (Nat.le_of_ble_eq_true rfl) 1000 (fun hok hM => ?_)
  constructor
  · intro c1
    first | exact h1 (by omega) | exact h0 (by omega)
  · intro c1
    refine And.intro (by omega) ?_
    refine And.intro (by omega) ?_
    first | exact h1 (by omega) | exact h0 (by omega)
set_option maxHeartbeats 4000000 in
set_option maxRecDepth 100000 in
/-- M.valueIn -/
theorem s_108 {o : Int} {h : zM} {Q : zQ} (ho : 0 ≤ o ∧ o < 106) (h1 : o < 100 → Q (some (.inl o)) h) (h0 : ¬ o < 100 → Q (some (.inl (h 99 (o - 100)))) h) : zR 108 [.inr (.inr 81), .inl o] h Q := by
  have l99 : zx_ln 99 = (6 : Int) := rfl
  refine zx_met0 zk_108 (Or.inr ⟨_, _, rfl, rfl⟩) (Nat.le_of_ble_eq_true rfl) 1000 (fun hok hM => ?_)
  constructor
  · intro c1
    first | exact h1 (by omega) | exact h0 (by omega)
  · intro c1
    refine And.intro (by omega) ?_
    refine And.intro (by omega) ?_
    first | exact h1 (by omega) | exact h0 (by omega)
set_option maxHeartbeats 4000000 in
set_option maxRecDepth 100000 in
/-- M.leftOperand -/
theorem s_78 {o : Int} {h : zM} {Q : zQ} (ho : -1000 ≤ o ∧ o < 106) (h1 : ¬ (100 ≤ o ∧ ¬ zbit (h 81 12) (o - 100)) → Q (some (.inl o)) h) (h0 : 100 ≤ o ∧ ¬ zbit (h 81 12) (o - 100) → Q (some (.inl (h 95 (o - 100)))) h) : zR 78 [.inr (.inr 81), .inl o] h Q := by
  have l95 : zx_ln 95 = (6 : Int) := rfl
  refine zx_met0 zk_78 (Or.inr ⟨_, _, rfl, rfl⟩) (Nat.le_of_ble_eq_true rfl) 1000 (fun hok hM => ?_)
  constructor
  · intro c1
    first | exact h1 (by omega) | exact h1 (fun z => z.2 cv.2) | exact h0 ⟨by omega, fun z => cv ⟨by omega, z⟩⟩
  · intro c1
    refine s_68 (by omega) (fun cv => ?_) (fun cv => ?_)
    · refine And.intro (fun c => absurd c (by decide)) (fun _ => ?_)
      first | exact h1 (by omega) | exact h1 (fun z => z.2 cv.2) | exact h0 ⟨by omega, fun z => cv ⟨by omega, z⟩⟩
    · refine And.intro (fun _ => ?_) (fun c => absurd (by decide) c)
      refine And.intro (by omega) ?_
      refine And.intro (by omega) ?_
      first | exact h1 (by omega) | exact h1 (fun z => z.2 cv.2) | exact h0 ⟨by omega, fun z => cv ⟨by omega, z⟩⟩
set_option maxHeartbeats 4000000 in
set_option maxRecDepth 100000 in
/-- M.brings -/
theorem s_77 {op x y : Int} {h : zM} {Q : zQ} (hx : 0 ≤ x ∧ x ≤ 99) (hy : 0 ≤ y ∧ y ≤ 99) (hq : Q (some (.inl (zres op x y))) h) : zR 77 [.inl op, .inl x, .inl y] h Q := by
  refine zx_met0 zk_77 (Or.inl rfl) (Nat.le_of_ble_eq_true rfl) 1000 (fun hok hM => ?_)
  constructor
  · intro c1
    refine And.intro (by omega) ?_
    constructor
    · intro c2
      refine zQe ?_ hq
      unfold zres
      (repeat' split) <;> omega
    · intro c2
      refine And.intro (by omega) ?_
      refine zQe ?_ hq
      unfold zres
      (repeat' split) <;> omega
  · intro c1
    constructor
    · intro c3
      constructor
      · intro c4
        refine zQe ?_ hq
        unfold zres
        (repeat' split) <;> omega
      · intro c4
        refine And.intro (by omega) ?_
        refine zQe ?_ hq
        unfold zres
        (repeat' split) <;> omega
    · intro c3
      constructor
      · intro c5
        constructor
        · intro c6
          refine zQe ?_ hq
          unfold zres
          (repeat' split) <;> omega
        · intro c6
          refine zQe ?_ hq
          unfold zres
          (repeat' split) <;> omega
      · intro c5
        constructor
        · intro c7
          refine zQe ?_ hq
          unfold zres
          (repeat' split) <;> omega
        · intro c7
          refine zQe ?_ hq
          unfold zres
          (repeat' split) <;> omega
set_option maxHeartbeats 4000000 in
set_option maxRecDepth 100000 in
/-- M.numberOf -/
theorem s_131 {o : Int} {h : zM} {Q : zQ} (hq : Q (some (.inl (if 0 ≤ o ∧ o < 100 then o else 0))) h) : zR 131 [.inl o] h Q := by
  refine zx_met0 zk_131 (Or.inl rfl) (Nat.le_of_ble_eq_true rfl) 1000 (fun hok hM => ?_)
  refine s_50 (fun cv => ?_) (fun cv => ?_)
  · refine And.intro (fun c => absurd c (by decide)) (fun _ => ?_)
    refine zQe ?_ hq
    (repeat' split) <;> omega
  · refine And.intro (fun _ => ?_) (fun c => absurd (by decide) c)
    refine zQe ?_ hq
    (repeat' split) <;> omega
set_option maxHeartbeats 4000000 in
set_option maxRecDepth 100000 in
/-- M.toldAt -/
theorem s_74 {b v : Int} {h : zM} {Q : zQ} (hb : 0 ≤ b ∧ b < 8) (hv : 0 ≤ v ∧ v < 6) (h1 : ¬ zbit (h 81 12) v → (h 82 174 = 1 ∨ zbit (h 86 b) v) → Q (some (.inl (h 95 v))) h) (h0 : ¬ (¬ zbit (h 81 12) v ∧ (h 82 174 = 1 ∨ zbit (h 86 b) v)) → Q (some (.inl 0)) h) : zR 74 [.inr (.inr 81), .inl b, .inl v] h Q := by
  have l82 : zx_ln 82 = (708 : Int) := rfl
  have l86 : zx_ln 86 = (8 : Int) := rfl
  have l95 : zx_ln 95 = (6 : Int) := rfl
  refine zx_met0 zk_74 (Or.inr ⟨_, _, rfl, rfl⟩) (Nat.le_of_ble_eq_true rfl) 1000 (fun hok hM => ?_)
  constructor
  · intro c1
    refine And.intro (fun c => absurd c (by decide)) (fun _ => ?_)
    refine And.intro (by omega) ?_
    constructor
    · intro c2
      refine And.intro (fun c => absurd c (by decide)) (fun _ => ?_)
      refine And.intro (by omega) ?_
      simp only [zbit1, zbit0] at *
      first | exact h1 (by assumption) (Or.inl (by assumption)) | exact h1 (by assumption) (Or.inr (by assumption)) | exact h0 (fun z => absurd z.1 (by assumption)) | exact h0 (fun z => by rcases z.2 with z | z <;> contradiction)
    · intro c2
      refine And.intro (by omega) ?_
      constructor
      · intro c3
        refine And.intro (fun c => absurd c (by decide)) (fun _ => ?_)
        refine And.intro (by omega) ?_
        simp only [zbit1, zbit0] at *
        first | exact h1 (by assumption) (Or.inl (by assumption)) | exact h1 (by assumption) (Or.inr (by assumption)) | exact h0 (fun z => absurd z.1 (by assumption)) | exact h0 (fun z => by rcases z.2 with z | z <;> contradiction)
      · intro c3
        refine And.intro (fun _ => ?_) (fun c => absurd (by decide) c)
        simp only [zbit1, zbit0] at *
        first | exact h1 (by assumption) (Or.inl (by assumption)) | exact h1 (by assumption) (Or.inr (by assumption)) | exact h0 (fun z => absurd z.1 (by assumption)) | exact h0 (fun z => by rcases z.2 with z | z <;> contradiction)
  · intro c1
    refine And.intro (fun _ => ?_) (fun c => absurd (by decide) c)
    refine And.intro (fun _ => ?_) (fun c => absurd (by decide) c)
    simp only [zbit1, zbit0] at *
    first | exact h1 (by assumption) (Or.inl (by assumption)) | exact h1 (by assumption) (Or.inr (by assumption)) | exact h0 (fun z => absurd z.1 (by assumption)) | exact h0 (fun z => by rcases z.2 with z | z <;> contradiction)
set_option maxHeartbeats 4000000 in
set_option maxRecDepth 100000 in
/-- M.becomesBegin -/
theorem s_106 {v x : Int} {h : zM} {Q : zQ} (h1 : (0 ≤ v ∧ v < 6) ∧ 0 ≤ x ∧ x ≤ 99 → Q (some (.inl (h 98 v))) (zx_st h 98 v x)) (h0 : ¬ ((0 ≤ v ∧ v < 6) ∧ 0 ≤ x ∧ x ≤ 99) → Q (some (.inl (-1))) h) : zR 106 [.inr (.inr 81), .inl v, .inl x] h Q := by
  have l98 : zx_ln 98 = (6 : Int) := rfl
  refine zx_met0 zk_106 (Or.inr ⟨_, _, rfl, rfl⟩) (Nat.le_of_ble_eq_true rfl) 1000 (fun hok hM => ?_)
  refine s_85 (fun cv => ?_) (fun cv => ?_)
  · refine And.intro (fun c => absurd c (by decide)) (fun _ => ?_)
    refine s_50 (fun cv => ?_) (fun cv => ?_)
    · refine And.intro (fun c => absurd c (by decide)) (fun _ => ?_)
      refine And.intro (by omega) ?_
      refine And.intro (by omega) ?_
      first | exact h1 (by omega) | exact h0 (by omega)
    · refine And.intro (fun _ => ?_) (fun c => absurd (by decide) c)
      first | exact h1 (by omega) | exact h0 (by omega)
  · refine And.intro (fun _ => ?_) (fun c => absurd (by decide) c)
    first | exact h1 (by omega) | exact h0 (by omega)
set_option maxHeartbeats 4000000 in
set_option maxRecDepth 100000 in
/-- M.begin -/
theorem s_107 {v x : Int} {h : zM} {Q : zQ} (h1 : (0 ≤ v ∧ v < 6) ∧ 0 ≤ x ∧ x ≤ 99 → Q (some (.inl (h 98 v))) (zx_st h 98 v x)) (h0 : ¬ ((0 ≤ v ∧ v < 6) ∧ 0 ≤ x ∧ x ≤ 99) → Q (some (.inl (-1))) h) : zR 107 [.inr (.inr 81), .inl v, .inl x] h Q := by
  refine zx_met0 zk_107 (Or.inr ⟨_, _, rfl, rfl⟩) (Nat.le_of_ble_eq_true rfl) 1000 (fun hok hM => ?_)
  refine s_106 (fun cv => ?_) (fun cv => ?_)
  · first | exact h1 (by assumption) | exact h0 (by assumption)
  · first | exact h1 (by assumption) | exact h0 (by assumption)
set_option maxHeartbeats 4000000 in
set_option maxRecDepth 100000 in
/-- C.begin -/
theorem s_14 {v x : Int} {h : zM} {Q : zQ} (h1 : (0 ≤ v ∧ v < 6) ∧ 0 ≤ x ∧ x ≤ 99 → Q (some (.inl (h 70 v))) (zx_st h 70 v x)) (h0 : ¬ ((0 ≤ v ∧ v < 6) ∧ 0 ≤ x ∧ x ≤ 99) → Q (some (.inl (-1))) h) : zR 14 [.inr (.inr 0), .inl v, .inl x] h Q := by
  have l70 : zx_ln 70 = (6 : Int) := rfl
  refine zx_met0 zk_14 (Or.inr ⟨_, _, rfl, rfl⟩) (Nat.le_of_ble_eq_true rfl) 1000 (fun hok hM => ?_)
  refine s_39 (fun cv => ?_) (fun cv => ?_)
  · refine And.intro (fun c => absurd c (by decide)) (fun _ => ?_)
    refine And.intro (by omega) ?_
    refine And.intro (by omega) ?_
    first | exact h1 (by assumption) | exact h0 (by assumption)
  · refine And.intro (fun _ => ?_) (fun c => absurd (by decide) c)
    first | exact h1 (by assumption) | exact h0 (by assumption)
end
section
/-! CONTRACTS: the calls that change a cell or two, class and reference -/
set_option maxHeartbeats 4000000 in
set_option maxRecDepth 100000 in
/-- C.feed -/
theorem s_0 {c : Int} {h : zM} {Q : zQ} (hl : 0 ≤ h 2 1 ∧ h 2 1 ≤ 320) (hb : ¬ (0 ≤ c ∧ c ≤ 127) → Q (some (.inl (-1))) h) (hf : 0 ≤ c ∧ c ≤ 127 → h 2 1 = 320 → Q (some (.inl (-3))) h) (h1 : 0 ≤ c ∧ c ≤ 127 → h 2 1 < 320 → Q (some (.inl (h 2 1 + 1))) (zx_st (zx_st h 3 (h 2 1) c) 2 1 (h 2 1 + 1))) : zR 0 [.inr (.inr 0), .inl c] h Q := by
  refine zx_met0 zk_0 (Or.inr ⟨_, _, rfl, rfl⟩) (Nat.le_of_ble_eq_true rfl) 1000 (fun hok hM => ?_)
  constructor
  · intro c1
    first | exact hb (by omega) | exact hf (by omega) (by omega) | exact h1 (by omega) (by omega)
  · intro c1
    constructor
    · intro c2
      first | exact hb (by omega) | exact hf (by omega) (by omega) | exact h1 (by omega) (by omega)
    · intro c2
      refine s_189 (by omega) hl (fun cv => ?_) (fun cv => ?_)
      · refine And.intro (fun c => absurd c (by decide)) (fun _ => ?_)
        first | exact hb (by omega) | exact hf (by omega) (by omega) | exact h1 (by omega) (by omega)
      · refine And.intro (fun _ => ?_) (fun c => absurd (by decide) c)
        first | exact hb (by omega) | exact hf (by omega) (by omega) | exact h1 (by omega) (by omega)
set_option maxHeartbeats 4000000 in
set_option maxRecDepth 100000 in
/-- M.feed -/
theorem s_51 {c : Int} {h : zM} {Q : zQ} (hl : 0 ≤ h 81 2 ∧ h 81 2 ≤ 320) (hb : ¬ (0 ≤ c ∧ c ≤ 127) → Q (some (.inl (-1))) h) (hf : 0 ≤ c ∧ c ≤ 127 → h 81 2 = 320 → Q (some (.inl (-3))) h) (h1 : 0 ≤ c ∧ c ≤ 127 → h 81 2 < 320 → Q (some (.inl (h 81 2 + 1))) (zx_st (zx_st h 83 (h 81 2) c) 81 2 (h 81 2 + 1))) : zR 51 [.inr (.inr 81), .inl c] h Q := by
  have l83 : zx_ln 83 = (320 : Int) := rfl
  refine zx_met0 zk_51 (Or.inr ⟨_, _, rfl, rfl⟩) (Nat.le_of_ble_eq_true rfl) 1000 (fun hok hM => ?_)
  refine s_50 (fun cv => ?_) (fun cv => ?_)
  · refine And.intro (fun c => absurd c (by decide)) (fun _ => ?_)
    constructor
    · intro c1
      first | exact hb (by omega) | exact hf (by omega) (by omega) | exact h1 (by omega) (by omega)
    · intro c1
      refine And.intro (by omega) ?_
      refine And.intro (by first | omega | (simp [zx_st]; omega)) ?_
      first | exact hb (by omega) | exact hf (by omega) (by omega) | exact h1 (by omega) (by omega)
  · refine And.intro (fun _ => ?_) (fun c => absurd (by decide) c)
    first | exact hb (by omega) | exact hf (by omega) (by omega) | exact h1 (by omega) (by omega)
set_option maxHeartbeats 4000000 in
set_option maxRecDepth 100000 in
/-- C.end -/
theorem s_1 {n : Int} {h : zM} {Q : zQ} (h1 : 0 ≤ n ∧ n ≤ h 2 1 → Q (some (.inl (h 2 1))) (zx_st h 2 1 n)) (h0 : ¬ (0 ≤ n ∧ n ≤ h 2 1) → Q (some (.inl (-1))) h) : zR 1 [.inr (.inr 0), .inl n] h Q := by
  refine zx_met0 zk_1 (Or.inr ⟨_, _, rfl, rfl⟩) (Nat.le_of_ble_eq_true rfl) 1000 (fun hok hM => ?_)
  constructor
  · intro c1
    first | exact h1 (by omega) | exact h0 (by omega)
  · intro c1
    constructor
    · intro c2
      first | exact h1 (by omega) | exact h0 (by omega)
    · intro c2
      first | exact h1 (by omega) | exact h0 (by omega)
set_option maxHeartbeats 4000000 in
set_option maxRecDepth 100000 in
/-- M.end -/
theorem s_52 {n : Int} {h : zM} {Q : zQ} (h1 : 0 ≤ n ∧ n ≤ h 81 2 → Q (some (.inl (h 81 2))) (zx_st h 81 2 n)) (h0 : ¬ (0 ≤ n ∧ n ≤ h 81 2) → Q (some (.inl (-1))) h) : zR 52 [.inr (.inr 81), .inl n] h Q := by
  refine zx_met0 zk_52 (Or.inr ⟨_, _, rfl, rfl⟩) (Nat.le_of_ble_eq_true rfl) 1000 (fun hok hM => ?_)
  refine s_50 (fun cv => ?_) (fun cv => ?_)
  · refine And.intro (fun c => absurd c (by decide)) (fun _ => ?_)
    first | exact h1 (by omega) | exact h0 (by omega)
  · refine And.intro (fun _ => ?_) (fun c => absurd (by decide) c)
    first | exact h1 (by omega) | exact h0 (by omega)
set_option maxHeartbeats 4000000 in
set_option maxRecDepth 100000 in
/-- C.step -/
theorem s_6 {i w : Int} {h : zM} {Q : zQ} (hk : zWk h 12) (h1 : (0 ≤ i ∧ i < h 12 8) ∧ 0 ≤ w ∧ w < 5 → Q (some (.inl (h 19 (i * 5 + w)))) h) (h0 : ¬ ((0 ≤ i ∧ i < h 12 8) ∧ 0 ≤ w ∧ w < 5) → Q (some (.inl (-1))) h) : zR 6 [.inr (.inr 0), .inl i, .inl w] h Q := by
  refine zx_met0 zk_6 (Or.inr ⟨_, _, rfl, rfl⟩) (Nat.le_of_ble_eq_true rfl) 1000 (fun hok hM => ?_)
  refine s_199 (by unfold zWb; omega) hk (fun cv => ?_) (fun cv => ?_)
  · first | exact h1 cv | exact h0 cv
  · first | exact h1 cv | exact h0 cv
set_option maxHeartbeats 4000000 in
set_option maxRecDepth 100000 in
/-- M.step -/
theorem s_90 {i w : Int} {h : zM} {Q : zQ} (hs : 0 ≤ h 82 176 ∧ h 82 176 ≤ 24) (h1 : (0 ≤ i ∧ i < h 82 176) ∧ 0 ≤ w ∧ w < 5 → Q (some (.inl (h 82 (24 * w + i)))) h) (h0 : ¬ ((0 ≤ i ∧ i < h 82 176) ∧ 0 ≤ w ∧ w < 5) → Q (some (.inl (-1))) h) : zR 90 [.inr (.inr 81), .inl i, .inl w] h Q := by
  have l82 : zx_ln 82 = (708 : Int) := rfl
  refine zx_met0 zk_90 (Or.inr ⟨_, _, rfl, rfl⟩) (Nat.le_of_ble_eq_true rfl) 1000 (fun hok hM => ?_)
  refine s_84 (by omega) (fun cv => ?_) (fun cv => ?_)
  · refine And.intro (fun c => absurd c (by decide)) (fun _ => ?_)
    refine s_50 (fun cv => ?_) (fun cv => ?_)
    · refine And.intro (fun c => absurd c (by decide)) (fun _ => ?_)
      refine And.intro (by omega) ?_
      refine And.intro (by omega) ?_
      refine And.intro (by omega) ?_
      first | exact h1 (by omega) | exact h0 (by omega)
    · refine And.intro (fun _ => ?_) (fun c => absurd (by decide) c)
      first | exact h1 (by omega) | exact h0 (by omega)
  · refine And.intro (fun _ => ?_) (fun c => absurd (by decide) c)
    first | exact h1 (by omega) | exact h0 (by omega)
set_option maxHeartbeats 4000000 in
set_option maxRecDepth 100000 in
/-- C.give -/
theorem s_7 {v x : Int} {h : zM} {Q : zQ} (h1 : (0 ≤ v ∧ v < 6) ∧ -1 ≤ x ∧ x ≤ 99 → Q (some (.inl (h 45 v))) (zx_st (zx_st h 45 v (if x < 0 then -4 else x)) 0 16 1)) (h0 : ¬ ((0 ≤ v ∧ v < 6) ∧ -1 ≤ x ∧ x ≤ 99) → Q (some (.inl (-1))) h) : zR 7 [.inr (.inr 0), .inl v, .inl x] h Q := by
  have l45 : zx_ln 45 = (6 : Int) := rfl
  refine zx_met0 zk_7 (Or.inr ⟨_, _, rfl, rfl⟩) (Nat.le_of_ble_eq_true rfl) 1000 (fun hok hM => ?_)
  refine s_38 (fun cv => ?_) (fun cv => ?_)
  · refine And.intro (fun c => absurd c (by decide)) (fun _ => ?_)
    constructor
    · intro c1
      first | exact h0 (by omega) | (have hq := h1 (by omega); (first | (rw [if_pos (by omega)] at hq; exact hq) | (rw [if_neg (by omega)] at hq; exact hq)))
    · intro c1
      constructor
      · intro c2
        first | exact h0 (by omega) | (have hq := h1 (by omega); (first | (rw [if_pos (by omega)] at hq; exact hq) | (rw [if_neg (by omega)] at hq; exact hq)))
      · intro c2
        refine And.intro (by omega) ?_
        constructor
        · intro c3
          refine And.intro (by omega) ?_
          refine And.intro (by first | exact Or.inl rfl | exact Or.inr rfl | omega) ?_
          first | exact h0 (by omega) | (have hq := h1 (by omega); (first | (rw [if_pos (by omega)] at hq; exact hq) | (rw [if_neg (by omega)] at hq; exact hq)))
        · intro c3
          refine And.intro (by omega) ?_
          refine And.intro (by first | exact Or.inl rfl | exact Or.inr rfl | omega) ?_
          first | exact h0 (by omega) | (have hq := h1 (by omega); (first | (rw [if_pos (by omega)] at hq; exact hq) | (rw [if_neg (by omega)] at hq; exact hq)))
  · refine And.intro (fun _ => ?_) (fun c => absurd (by decide) c)
    first | exact h0 (by omega) | (have hq := h1 (by omega); (first | (rw [if_pos (by omega)] at hq; exact hq) | (rw [if_neg (by omega)] at hq; exact hq)))
set_option maxHeartbeats 4000000 in
set_option maxRecDepth 100000 in
/-- M.give -/
theorem s_91 {v x : Int} {h : zM} {Q : zQ} (hg : ∀ v, 0 ≤ v → v < 6 → 0 ≤ h 82 (168 + v) ∧ h 82 (168 + v) ≤ 100) (h1 : (0 ≤ v ∧ v < 6) ∧ -1 ≤ x ∧ x ≤ 99 → Q (some (.inl (if h 82 (168 + v) = 0 then -4 else h 82 (168 + v) - 1))) (zx_st (zx_st h 82 (168 + v) (x + 1)) 81 14 0)) (h0 : ¬ ((0 ≤ v ∧ v < 6) ∧ -1 ≤ x ∧ x ≤ 99) → Q (some (.inl (-1))) h) : zR 91 [.inr (.inr 81), .inl v, .inl x] h Q := by
  have l82 : zx_ln 82 = (708 : Int) := rfl
  refine zx_met0 zk_91 (Or.inr ⟨_, _, rfl, rfl⟩) (Nat.le_of_ble_eq_true rfl) 1000 (fun hok hM => ?_)
  refine s_85 (fun cv => ?_) (fun cv => ?_)
  · refine And.intro (fun c => absurd c (by decide)) (fun _ => ?_)
    refine s_50 (fun cv => ?_) (fun cv => ?_)
    · refine And.intro (fun c => absurd c (by decide)) (fun _ => ?_)
      refine And.intro (by first | omega | (have := hg v (by omega) (by omega); omega)) ?_
      refine And.intro (by omega) ?_
      constructor
      · intro c1
        refine And.intro (by first | omega | (have := hg v (by omega) (by omega); omega)) ?_
        refine And.intro (by first | omega | (have := hg v (by omega) (by omega); omega)) ?_
        refine And.intro (by omega) ?_
        refine And.intro (by first | exact Or.inl rfl | exact Or.inr rfl | omega) ?_
        first | exact h0 (by omega) | (have hq := h1 (by omega); (first | (rw [if_pos (by assumption)] at hq; exact hq) | (rw [if_neg (by assumption)] at hq; exact hq)))
      · intro c1
        refine And.intro (by first | omega | (have := hg v (by omega) (by omega); omega)) ?_
        refine And.intro (by omega) ?_
        refine And.intro (by first | omega | (have := hg v (by omega) (by omega); omega)) ?_
        refine And.intro (by first | omega | (have := hg v (by omega) (by omega); omega)) ?_
        refine And.intro (by first | omega | (have := hg v (by omega) (by omega); omega)) ?_
        refine And.intro (by omega) ?_
        refine And.intro (by first | exact Or.inl rfl | exact Or.inr rfl | omega) ?_
        first | exact h0 (by omega) | (have hq := h1 (by omega); (first | (rw [if_pos (by assumption)] at hq; exact hq) | (rw [if_neg (by assumption)] at hq; exact hq)))
    · refine And.intro (fun _ => ?_) (fun c => absurd (by decide) c)
      first | exact h0 (by omega) | (have hq := h1 (by omega); (first | (rw [if_pos (by assumption)] at hq; exact hq) | (rw [if_neg (by assumption)] at hq; exact hq)))
  · refine And.intro (fun _ => ?_) (fun c => absurd (by decide) c)
    first | exact h0 (by omega) | (have hq := h1 (by omega); (first | (rw [if_pos (by assumption)] at hq; exact hq) | (rw [if_neg (by assumption)] at hq; exact hq)))
set_option maxHeartbeats 4000000 in
set_option maxRecDepth 100000 in
/-- C.wise -/
theorem s_8 {v : Int} {h : zM} {Q : zQ} (h1 : 0 ≤ v ∧ v ≤ 1 → Q (some (.inl (h 44 2))) (zx_st (zx_st h 44 2 v) 0 16 1)) (h0 : ¬ (0 ≤ v ∧ v ≤ 1) → Q (some (.inl (-1))) h) : zR 8 [.inr (.inr 0), .inl v] h Q := by
  refine zx_met0 zk_8 (Or.inr ⟨_, _, rfl, rfl⟩) (Nat.le_of_ble_eq_true rfl) 1000 (fun hok hM => ?_)
  constructor
  · intro c1
    first | exact h1 (by omega) | exact h0 (by omega)
  · intro c1
    constructor
    · intro c2
      first | exact h1 (by omega) | exact h0 (by omega)
    · intro c2
      refine And.intro (by first | exact Or.inl rfl | exact Or.inr rfl | omega) ?_
      first | exact h1 (by omega) | exact h0 (by omega)
set_option maxHeartbeats 4000000 in
set_option maxRecDepth 100000 in
/-- M.wise -/
theorem s_92 {v : Int} {h : zM} {Q : zQ} (hw : 0 ≤ h 82 174 ∧ h 82 174 ≤ 1) (h1 : 0 ≤ v ∧ v ≤ 1 → Q (some (.inl (1 - h 82 174))) (zx_st (zx_st h 82 174 (1 - v)) 81 14 0)) (h0 : ¬ (0 ≤ v ∧ v ≤ 1) → Q (some (.inl (-1))) h) : zR 92 [.inr (.inr 81), .inl v] h Q := by
  have l82 : zx_ln 82 = (708 : Int) := rfl
  refine zx_met0 zk_92 (Or.inr ⟨_, _, rfl, rfl⟩) (Nat.le_of_ble_eq_true rfl) 1000 (fun hok hM => ?_)
  refine s_50 (fun cv => ?_) (fun cv => ?_)
  · refine And.intro (fun c => absurd c (by decide)) (fun _ => ?_)
    refine And.intro (by omega) ?_
    refine And.intro (by omega) ?_
    refine And.intro (by omega) ?_
    refine And.intro (by omega) ?_
    refine And.intro (by first | exact Or.inl rfl | exact Or.inr rfl | omega) ?_
    first | exact h1 (by omega) | exact h0 (by omega)
  · refine And.intro (fun _ => ?_) (fun c => absurd (by decide) c)
    first | exact h1 (by omega) | exact h0 (by omega)
set_option maxHeartbeats 4000000 in
set_option maxRecDepth 100000 in
/-- C.alter -/
theorem s_19 {i w v : Int} {h : zM} {Q : zQ} (hk : zWk h 12) (h1 : (0 ≤ i ∧ i < h 12 8) ∧ (1 ≤ w ∧ w < 5) ∧ 0 ≤ h 19 (i * 5 + w) ∧ 0 ≤ v ∧ (w = 1 → v < 6) ∧ (w = 3 → v < 4) ∧ v < 106 → Q (some (.inl (h 19 (i * 5 + w)))) (zx_st (zx_st h 19 (i * 5 + w) v) 0 16 1)) (h0 : ¬ ((0 ≤ i ∧ i < h 12 8) ∧ (1 ≤ w ∧ w < 5) ∧ 0 ≤ h 19 (i * 5 + w) ∧ 0 ≤ v ∧ (w = 1 → v < 6) ∧ (w = 3 → v < 4) ∧ v < 106) → Q (some (.inl (-1))) h) : zR 19 [.inr (.inr 0), .inl i, .inl w, .inl v] h Q := by
  refine zx_met0 zk_19 (Or.inr ⟨_, _, rfl, rfl⟩) (Nat.le_of_ble_eq_true rfl) 1000 (fun hok hM => ?_)
  refine s_199 (by unfold zWb; omega) hk (fun cv => ?_) (fun cv => ?_)
  all_goals simp only [show (12 + 7 : Nat) = 19 from rfl] at *
  · constructor
    · intro c1
      first | exact h0 (by omega) | exact h1 (by omega)
    · intro c1
      constructor
      · intro c2
        first | exact h0 (by omega) | exact h1 (by omega)
      · intro c2
        constructor
        · intro c3
          constructor
          · intro c4
            first | exact h0 (by omega) | exact h1 (by omega)
          · intro c4
            constructor
            · intro c5
              refine s_200 (by unfold zWb; omega) hk (fun cw => ?_) (fun cw => absurd (by omega) cw)
              refine And.intro (by first | exact Or.inl rfl | exact Or.inr rfl | omega) ?_
              first | exact h0 (by omega) | exact h1 (by omega)
            · intro c5
              first | exact h0 (by omega) | exact h1 (by omega)
        · intro c3
          constructor
          · intro c6
            constructor
            · intro c7
              first | exact h0 (by omega) | exact h1 (by omega)
            · intro c7
              constructor
              · intro c8
                refine s_200 (by unfold zWb; omega) hk (fun cw => ?_) (fun cw => absurd (by omega) cw)
                refine And.intro (by first | exact Or.inl rfl | exact Or.inr rfl | omega) ?_
                first | exact h0 (by omega) | exact h1 (by omega)
              · intro c8
                first | exact h0 (by omega) | exact h1 (by omega)
          · intro c6
            constructor
            · intro c9
              first | exact h0 (by omega) | exact h1 (by omega)
            · intro c9
              constructor
              · intro c10
                refine s_200 (by unfold zWb; omega) hk (fun cw => ?_) (fun cw => absurd (by omega) cw)
                refine And.intro (by first | exact Or.inl rfl | exact Or.inr rfl | omega) ?_
                first | exact h0 (by omega) | exact h1 (by omega)
              · intro c10
                first | exact h0 (by omega) | exact h1 (by omega)
  · constructor
    · intro c11
      first | exact h0 (by omega) | exact h1 (by omega)
    · intro c11
      refine And.intro (fun _ => ?_) (fun c => absurd (by decide) c)
      first | exact h0 (by omega) | exact h1 (by omega)
set_option maxHeartbeats 4000000 in
set_option maxRecDepth 100000 in
/-- M.puts -/
theorem s_120 {g a v : Int} {h : zM} {Q : zQ} (ha : ¬ g = 0 → 0 ≤ a ∧ a < 708) (h1 : ¬ g = 0 → Q (some (.inl (h 82 a))) (zx_st (zx_st h 82 a v) 81 14 0)) (h0 : g = 0 → Q (some (.inl (-1))) h) : zR 120 [.inr (.inr 81), .inl g, .inl a, .inl v] h Q := by
  have l82 : zx_ln 82 = (708 : Int) := rfl
  refine zx_met0 zk_120 (Or.inr ⟨_, _, rfl, rfl⟩) (Nat.le_of_ble_eq_true rfl) 1000 (fun hok hM => ?_)
  constructor
  · intro c1
    first | exact h1 (by assumption) | exact h0 (by assumption)
  · intro c1
    refine And.intro (by (have := ha (by assumption); omega)) ?_
    refine And.intro (by (have := ha (by assumption); omega)) ?_
    refine And.intro (by first | exact Or.inl rfl | exact Or.inr rfl | omega) ?_
    first | exact h1 (by assumption) | exact h0 (by assumption)
set_option maxHeartbeats 4000000 in
set_option maxRecDepth 100000 in
/-- M.alter -/
theorem s_122 {i w v : Int} {h : zM} {Q : zQ} (hs : 0 ≤ h 82 176 ∧ h 82 176 ≤ 24) (h1 : (0 ≤ i ∧ i < h 82 176) ∧ (1 ≤ w ∧ w < 5) ∧ ¬ (h 82 i = 1 ∧ ¬ w = 2) ∧ 0 ≤ v ∧ (w = 1 → v < 6) ∧ (w = 3 → v < 4) ∧ v < 106 → Q (some (.inl (h 82 (24 * w + i)))) (zx_st (zx_st h 82 (24 * w + i) v) 81 14 0)) (h0 : ¬ ((0 ≤ i ∧ i < h 82 176) ∧ (1 ≤ w ∧ w < 5) ∧ ¬ (h 82 i = 1 ∧ ¬ w = 2) ∧ 0 ≤ v ∧ (w = 1 → v < 6) ∧ (w = 3 → v < 4) ∧ v < 106) → Q (some (.inl (-1))) h) : zR 122 [.inr (.inr 81), .inl i, .inl w, .inl v] h Q := by
  have l82 : zx_ln 82 = (708 : Int) := rfl
  refine zx_met0 zk_122 (Or.inr ⟨_, _, rfl, rfl⟩) (Nat.le_of_ble_eq_true rfl) 1000 (fun hok hM => ?_)
  refine s_84 (by omega) (fun cv => ?_) (fun cv => ?_)
  · refine And.intro (fun c => absurd c (by decide)) (fun _ => ?_)
    refine s_50 (fun cv => ?_) (fun cv => ?_)
    · refine And.intro (fun c => absurd c (by decide)) (fun _ => ?_)
      refine And.intro (by omega) ?_
      constructor
      · intro c1
        constructor
        · intro c2
          constructor
          · intro c3
            refine s_85 (fun cv => ?_) (fun cv => ?_)
            · refine And.intro (by omega) ?_
              refine And.intro (by omega) ?_
              refine s_120 (fun _ => by omega) (fun cg => ?_) (fun cg => ?_)
              · first | exact h0 (by omega) | exact h1 (by omega) | (exfalso; omega)
              · first | exact h0 (by omega) | exact h1 (by omega) | (exfalso; omega)
            · refine And.intro (by omega) ?_
              refine And.intro (by omega) ?_
              refine s_120 (fun _ => by omega) (fun cg => ?_) (fun cg => ?_)
              · first | exact h0 (by omega) | exact h1 (by omega) | (exfalso; omega)
              · first | exact h0 (by omega) | exact h1 (by omega) | (exfalso; omega)
          · intro c3
            constructor
            · intro c4
              refine s_50 (fun cv => ?_) (fun cv => ?_)
              · refine And.intro (by omega) ?_
                refine And.intro (by omega) ?_
                refine s_120 (fun _ => by omega) (fun cg => ?_) (fun cg => ?_)
                · first | exact h0 (by omega) | exact h1 (by omega) | (exfalso; omega)
                · first | exact h0 (by omega) | exact h1 (by omega) | (exfalso; omega)
              · refine And.intro (by omega) ?_
                refine And.intro (by omega) ?_
                refine s_120 (fun _ => by omega) (fun cg => ?_) (fun cg => ?_)
                · first | exact h0 (by omega) | exact h1 (by omega) | (exfalso; omega)
                · first | exact h0 (by omega) | exact h1 (by omega) | (exfalso; omega)
            · intro c4
              refine s_121 (fun cv => ?_) (fun cv => ?_)
              · refine And.intro (by omega) ?_
                refine And.intro (by omega) ?_
                refine s_120 (fun _ => by omega) (fun cg => ?_) (fun cg => ?_)
                · first | exact h0 (by omega) | exact h1 (by omega) | (exfalso; omega)
                · first | exact h0 (by omega) | exact h1 (by omega) | (exfalso; omega)
              · refine And.intro (by omega) ?_
                refine And.intro (by omega) ?_
                refine s_120 (fun _ => by omega) (fun cg => ?_) (fun cg => ?_)
                · first | exact h0 (by omega) | exact h1 (by omega) | (exfalso; omega)
                · first | exact h0 (by omega) | exact h1 (by omega) | (exfalso; omega)
        · intro c2
          first | exact h0 (by omega) | exact h1 (by omega) | (exfalso; omega)
      · intro c1
        constructor
        · intro c5
          refine s_85 (fun cv => ?_) (fun cv => ?_)
          · refine And.intro (by omega) ?_
            refine And.intro (by omega) ?_
            refine s_120 (fun _ => by omega) (fun cg => ?_) (fun cg => ?_)
            · first | exact h0 (by omega) | exact h1 (by omega) | (exfalso; omega)
            · first | exact h0 (by omega) | exact h1 (by omega) | (exfalso; omega)
          · refine And.intro (by omega) ?_
            refine And.intro (by omega) ?_
            refine s_120 (fun _ => by omega) (fun cg => ?_) (fun cg => ?_)
            · first | exact h0 (by omega) | exact h1 (by omega) | (exfalso; omega)
            · first | exact h0 (by omega) | exact h1 (by omega) | (exfalso; omega)
        · intro c5
          constructor
          · intro c6
            refine s_50 (fun cv => ?_) (fun cv => ?_)
            · refine And.intro (by omega) ?_
              refine And.intro (by omega) ?_
              refine s_120 (fun _ => by omega) (fun cg => ?_) (fun cg => ?_)
              · first | exact h0 (by omega) | exact h1 (by omega) | (exfalso; omega)
              · first | exact h0 (by omega) | exact h1 (by omega) | (exfalso; omega)
            · refine And.intro (by omega) ?_
              refine And.intro (by omega) ?_
              refine s_120 (fun _ => by omega) (fun cg => ?_) (fun cg => ?_)
              · first | exact h0 (by omega) | exact h1 (by omega) | (exfalso; omega)
              · first | exact h0 (by omega) | exact h1 (by omega) | (exfalso; omega)
          · intro c6
            refine s_121 (fun cv => ?_) (fun cv => ?_)
            · refine And.intro (by omega) ?_
              refine And.intro (by omega) ?_
              refine s_120 (fun _ => by omega) (fun cg => ?_) (fun cg => ?_)
              · first | exact h0 (by omega) | exact h1 (by omega) | (exfalso; omega)
              · first | exact h0 (by omega) | exact h1 (by omega) | (exfalso; omega)
            · refine And.intro (by omega) ?_
              refine And.intro (by omega) ?_
              refine s_120 (fun _ => by omega) (fun cg => ?_) (fun cg => ?_)
              · first | exact h0 (by omega) | exact h1 (by omega) | (exfalso; omega)
              · first | exact h0 (by omega) | exact h1 (by omega) | (exfalso; omega)
    · refine And.intro (fun _ => ?_) (fun c => absurd (by decide) c)
      first | exact h0 (by omega) | exact h1 (by omega) | (exfalso; omega)
  · refine And.intro (fun _ => ?_) (fun c => absurd (by decide) c)
    first | exact h0 (by omega) | exact h1 (by omega) | (exfalso; omega)
end
section
/-! CONTRACTS: lead, images, sheets: class and reference -/
def zsb (k : Int) : Nat := 73 + 2 * k.toNat
set_option maxHeartbeats 4000000 in
set_option maxRecDepth 100000 in
/-- C.isBlock -/
theorem s_35 {p : Int} {h : zM} {Q : zQ} (h1 : 0 ≤ p ∧ p < h 12 7 → Q (some (.inl 1)) h) (h0 : ¬ (0 ≤ p ∧ p < h 12 7) → Q (some (.inl 0)) h) : zR 35 [.inr (.inr 0), .inl p] h Q := by
  refine zx_met0 zk_35 (Or.inr ⟨_, _, rfl, rfl⟩) (Nat.le_of_ble_eq_true rfl) 1000 (fun hok hM => ?_)
  constructor
  · intro c1
    refine And.intro (by first | exact Or.inl rfl | exact Or.inr rfl | omega) ?_
    first | exact h1 (by omega) | exact h0 (by omega)
  · intro c1
    constructor
    · intro c2
      refine And.intro (by first | exact Or.inl rfl | exact Or.inr rfl | omega) ?_
      first | exact h1 (by omega) | exact h0 (by omega)
    · intro c2
      refine And.intro (by first | exact Or.inl rfl | exact Or.inr rfl | omega) ?_
      first | exact h1 (by omega) | exact h0 (by omega)
set_option maxHeartbeats 4000000 in
set_option maxRecDepth 100000 in
/-- C.lead -/
theorem s_20 {p w v : Int} {h : zM} {Q : zQ} (hk : h 12 7 ≤ 8) (h1 : (0 ≤ p ∧ p < h 12 7) ∧ (3 ≤ w ∧ w ≤ 5) ∧ 0 ≤ h (13 + w.toNat) p ∧ 0 ≤ v ∧ (w = 5 → v < 6) ∧ (w < 5 → v < h 12 7) → Q (some (.inl (h (13 + w.toNat) p))) (zx_st (zx_st h (13 + w.toNat) p v) 0 16 1)) (h0 : ¬ ((0 ≤ p ∧ p < h 12 7) ∧ (3 ≤ w ∧ w ≤ 5) ∧ 0 ≤ h (13 + w.toNat) p ∧ 0 ≤ v ∧ (w = 5 → v < 6) ∧ (w < 5 → v < h 12 7)) → Q (some (.inl (-1))) h) : zR 20 [.inr (.inr 0), .inl p, .inl w, .inl v] h Q := by
  refine zx_met0 zk_20 (Or.inr ⟨_, _, rfl, rfl⟩) (Nat.le_of_ble_eq_true rfl) 1000 (fun hok hM => ?_)
  refine s_197 (by unfold zWb; omega) hk (fun cu => ?_) (fun cu => ?_)
  all_goals simp only [show (12 + 1 : Nat) = 13 from rfl] at *
  · constructor
    · intro c1
      first | exact h1 (by omega) | exact h0 (by omega) | (exfalso; omega)
    · intro c1
      constructor
      · intro c2
        first | exact h1 (by omega) | exact h0 (by omega) | (exfalso; omega)
      · intro c2
        constructor
        · intro c3
          first | exact h1 (by omega) | exact h0 (by omega) | (exfalso; omega)
        · intro c3
          constructor
          · intro c4
            refine s_38 (fun cv => ?_) (fun cv => ?_)
            · refine And.intro (fun c => absurd c (by decide)) (fun _ => ?_)
              refine s_198 (by unfold zWb; omega) hk (fun cw => ?_) (fun cw => absurd (by omega) cw)
              refine And.intro (by first | exact Or.inl rfl | exact Or.inr rfl | omega) ?_
              first | exact h1 (by omega) | exact h0 (by omega) | (exfalso; omega)
            · refine And.intro (fun _ => ?_) (fun c => absurd (by decide) c)
              first | exact h1 (by omega) | exact h0 (by omega) | (exfalso; omega)
          · intro c4
            refine s_35 (fun cv => ?_) (fun cv => ?_)
            · refine And.intro (fun c => absurd c (by decide)) (fun _ => ?_)
              refine s_198 (by unfold zWb; omega) hk (fun cw => ?_) (fun cw => absurd (by omega) cw)
              refine And.intro (by first | exact Or.inl rfl | exact Or.inr rfl | omega) ?_
              first | exact h1 (by omega) | exact h0 (by omega) | (exfalso; omega)
            · refine And.intro (fun _ => ?_) (fun c => absurd (by decide) c)
              first | exact h1 (by omega) | exact h0 (by omega) | (exfalso; omega)
  · constructor
    · intro c5
      first | exact h1 (by omega) | exact h0 (by omega) | (exfalso; omega)
    · intro c5
      constructor
      · intro c6
        first | exact h1 (by omega) | exact h0 (by omega) | (exfalso; omega)
      · intro c6
        refine And.intro (fun _ => ?_) (fun c => absurd (by decide) c)
        first | exact h1 (by omega) | exact h0 (by omega) | (exfalso; omega)
set_option maxHeartbeats 4000000 in
set_option maxRecDepth 100000 in
/-- M.lead -/
theorem s_123 {p w v : Int} {h : zM} {Q : zQ} (hb : 0 ≤ h 82 175 ∧ h 82 175 ≤ 8) (h1 : (0 ≤ p ∧ p < h 82 175) ∧ (3 ≤ w ∧ w ≤ 5) ∧ ¬ h 82 (136 + p) = 2 ∧ ¬ (3 < w ∧ h 82 (136 + p) = 0) ∧ 0 ≤ v ∧ (w = 5 → v < 6) ∧ (w < 5 → v < h 82 175) → Q (some (.inl (h 82 (120 + 8 * w + p)))) (zx_st (zx_st h 82 (120 + 8 * w + p) v) 81 14 0)) (h0 : ¬ ((0 ≤ p ∧ p < h 82 175) ∧ (3 ≤ w ∧ w ≤ 5) ∧ ¬ h 82 (136 + p) = 2 ∧ ¬ (3 < w ∧ h 82 (136 + p) = 0) ∧ 0 ≤ v ∧ (w = 5 → v < 6) ∧ (w < 5 → v < h 82 175)) → Q (some (.inl (-1))) h) : zR 123 [.inr (.inr 81), .inl p, .inl w, .inl v] h Q := by
  have l82 : zx_ln 82 = (708 : Int) := rfl
  refine zx_met0 zk_123 (Or.inr ⟨_, _, rfl, rfl⟩) (Nat.le_of_ble_eq_true rfl) 1000 (fun hok hM => ?_)
  refine s_83 (by omega) (fun cv => ?_) (fun cv => ?_)
  · refine And.intro (fun c => absurd c (by decide)) (fun _ => ?_)
    refine s_50 (fun cv => ?_) (fun cv => ?_)
    · refine And.intro (fun c => absurd c (by decide)) (fun _ => ?_)
      refine And.intro (by omega) ?_
      refine And.intro (by omega) ?_
      constructor
      · intro c1
        first | exact h1 (by omega) | exact h0 (by omega) | (exfalso; omega)
      · intro c1
        constructor
        · intro c2
          refine And.intro (by omega) ?_
          refine And.intro (by omega) ?_
          constructor
          · intro c3
            first | exact h1 (by omega) | exact h0 (by omega) | (exfalso; omega)
          · intro c3
            constructor
            · intro c4
              refine s_85 (fun cv => ?_) (fun cv => ?_)
              · refine And.intro (by omega) ?_
                refine And.intro (by omega) ?_
                refine And.intro (by omega) ?_
                refine s_120 (fun _ => by omega) (fun cg => ?_) (fun cg => ?_)
                · first | exact h1 (by omega) | exact h0 (by omega) | (exfalso; omega)
                · first | exact h1 (by omega) | exact h0 (by omega) | (exfalso; omega)
              · refine And.intro (by omega) ?_
                refine And.intro (by omega) ?_
                refine And.intro (by omega) ?_
                refine s_120 (fun _ => by omega) (fun cg => ?_) (fun cg => ?_)
                · first | exact h1 (by omega) | exact h0 (by omega) | (exfalso; omega)
                · first | exact h1 (by omega) | exact h0 (by omega) | (exfalso; omega)
            · intro c4
              refine s_83 (by omega) (fun cv => ?_) (fun cv => ?_)
              · refine And.intro (by omega) ?_
                refine And.intro (by omega) ?_
                refine And.intro (by omega) ?_
                refine s_120 (fun _ => by omega) (fun cg => ?_) (fun cg => ?_)
                · first | exact h1 (by omega) | exact h0 (by omega) | (exfalso; omega)
                · first | exact h1 (by omega) | exact h0 (by omega) | (exfalso; omega)
              · refine And.intro (by omega) ?_
                refine And.intro (by omega) ?_
                refine And.intro (by omega) ?_
                refine s_120 (fun _ => by omega) (fun cg => ?_) (fun cg => ?_)
                · first | exact h1 (by omega) | exact h0 (by omega) | (exfalso; omega)
                · first | exact h1 (by omega) | exact h0 (by omega) | (exfalso; omega)
        · intro c2
          constructor
          · intro c5
            refine s_85 (fun cv => ?_) (fun cv => ?_)
            · refine And.intro (by omega) ?_
              refine And.intro (by omega) ?_
              refine And.intro (by omega) ?_
              refine s_120 (fun _ => by omega) (fun cg => ?_) (fun cg => ?_)
              · first | exact h1 (by omega) | exact h0 (by omega) | (exfalso; omega)
              · first | exact h1 (by omega) | exact h0 (by omega) | (exfalso; omega)
            · refine And.intro (by omega) ?_
              refine And.intro (by omega) ?_
              refine And.intro (by omega) ?_
              refine s_120 (fun _ => by omega) (fun cg => ?_) (fun cg => ?_)
              · first | exact h1 (by omega) | exact h0 (by omega) | (exfalso; omega)
              · first | exact h1 (by omega) | exact h0 (by omega) | (exfalso; omega)
          · intro c5
            refine s_83 (by omega) (fun cv => ?_) (fun cv => ?_)
            · refine And.intro (by omega) ?_
              refine And.intro (by omega) ?_
              refine And.intro (by omega) ?_
              refine s_120 (fun _ => by omega) (fun cg => ?_) (fun cg => ?_)
              · first | exact h1 (by omega) | exact h0 (by omega) | (exfalso; omega)
              · first | exact h1 (by omega) | exact h0 (by omega) | (exfalso; omega)
            · refine And.intro (by omega) ?_
              refine And.intro (by omega) ?_
              refine And.intro (by omega) ?_
              refine s_120 (fun _ => by omega) (fun cg => ?_) (fun cg => ?_)
              · first | exact h1 (by omega) | exact h0 (by omega) | (exfalso; omega)
              · first | exact h1 (by omega) | exact h0 (by omega) | (exfalso; omega)
    · refine And.intro (fun _ => ?_) (fun c => absurd (by decide) c)
      first | exact h1 (by omega) | exact h0 (by omega) | (exfalso; omega)
  · refine And.intro (fun _ => ?_) (fun c => absurd (by decide) c)
    first | exact h1 (by omega) | exact h0 (by omega) | (exfalso; omega)
set_option maxHeartbeats 4000000 in
set_option maxRecDepth 100000 in
/-- M.copies -/
theorem s_67 {f t : Int} {h : zM} {Q : zQ} (hf : 0 ≤ f ∧ f ≤ 531) (ht : 0 ≤ t ∧ t ≤ 531) (hd : f + 177 ≤ t ∨ t + 177 ≤ f) (hq : ∀ h2, zF (fun r _ => Nat.beq r 82) h h2 → (∀ k, 0 ≤ k → k < 177 → h2 82 (t + k) = h 82 (f + k)) → (∀ k, ¬ (t ≤ k ∧ k < t + 177) → h2 82 k = h 82 k) → Q none h2) : zR 67 [.inr (.inr 81), .inl f, .inl t] h Q := by
  have l82 : zx_ln 82 = (708 : Int) := rfl
  refine zx_met zk_67 (Or.inr ⟨_, _, rfl, rfl⟩) (Nat.le_of_ble_eq_true rfl) (fun _ => false) 1000 (fun m i L S h2 => i = 2 ∧ S = [] ∧ ∃ k : Nat, L = [some (.inr (.inr 81)), some (.inl f), some (.inl t), some (.inl (k : Int))] ∧ k ≤ 177 ∧ m = 177 - k ∧ zF (fun r _ => Nat.beq r 82) h h2 ∧ (∀ i, 0 ≤ i → i < (k : Int) → h2 82 (t + i) = h 82 (f + i)) ∧ ∀ i, ¬ (t ≤ i ∧ i < t + k) → h2 82 i = h 82 i) (fun hok hM => ?_) (fun hok hM => ?_)
  · exact ⟨177, rfl, rfl, 0, rfl, by omega, rfl, zF.rf, fun i h0 h1 => by omega, fun i _ => rfl⟩
  · rintro m i L S h2 hM2 ⟨rfl, rfl, k, rfl, hk, hm, hF, e1, e2⟩
    constructor
    · intro c1
      refine And.intro (by omega) ?_
      refine And.intro (by omega) ?_
      refine And.intro (by omega) ?_
      refine And.intro (by omega) ?_
      refine And.intro (by omega) ?_
      refine ⟨177 - (k + 1), by omega, rfl, rfl, k + 1, rfl, by omega, rfl, hF.st rfl, fun i h0 h1 => ?_, fun i hi => ?_⟩
      · by_cases hi : i = (k : Int)
        · rw [hi]
          refine (zst_eq _ _ _ _).trans ?_
          exact e2 _ (by omega)
        · rw [zst_ne (by omega)]
          exact e1 i h0 (by omega)
      · rw [zst_ne (by omega)]
        exact e2 i (by omega)
    · intro c1
      have hk6 : k = 177 := by omega
      subst hk6
      exact hq h2 hF e1 e2
set_option maxHeartbeats 4000000 in
set_option maxRecDepth 100000 in
/-- C.keep -/
theorem s_21_0 {h : zM} {Q : zQ} (hq : ∀ h2, zF (fun r _ => (Nat.ble 20 r && Nat.ble r 27) || Nat.beq r 46 || Nat.beq r 47 || Nat.beq r 51) h h2 → h2 20 7 = h 12 7 → h2 20 8 = h 12 8 → (∀ (w : Nat) (k : Int), w < 6 → 0 ≤ k → k < 8 → h2 (21 + w) k = h (13 + w) k) → (∀ k, 0 ≤ k → k < 120 → h2 27 k = h 19 k) → (∀ k, 0 ≤ k → k < 6 → h2 47 k = h 45 k) → h2 46 2 = h 44 2 →  h2 51 0 = 1 → h2 51 1 = h 51 1 → Q (some (.inl (if h 51 0 = 0 then 0 else 1))) h2) : zR 21 [.inr (.inr 0), .inl 0] h Q := by
  have l50 : zx_ln 50 = (2 : Int) := rfl
  have l51 : zx_ln 51 = (2 : Int) := rfl
  refine zx_met0 zk_21 (Or.inr ⟨_, _, rfl, rfl⟩) (Nat.le_of_ble_eq_true rfl) 1000 (fun hok hM => ?_)
  refine And.intro (fun c1 => absurd c1 (by omega)) (fun c1 => ?_)
  refine And.intro (fun c2 => ?_) (fun c2 => absurd (by omega) c2)
  refine And.intro (by omega) ?_
  constructor
  · intro c3
    refine And.intro (by omega) ?_
    refine s_162 (b := 44) (c := 46) (by unfold zCg; omega) (fun h2 hF e1 e2 e3 e4 e5 e6 => ?_)
    refine And.intro (by omega) ?_
    refine And.intro (by first | exact Or.inl rfl | exact Or.inr rfl | omega) ?_
    first
    | (have hq := hq (zx_st h2 51 0 1) ((hF.mono (fun r k hf => by simp only [Bool.or_eq_false_iff] at hf ⊢; exact hf.1)).st rfl) e1 e2 (fun w k a b c => (zst_nr (by omega)).trans (e3 w k a b c)) (fun k a b => (zst_nr (by decide)).trans (e4 k a b)) (fun k a b => (zst_nr (by decide)).trans (e5 k a b)) e6 (zst_eq _ _ _ _) ((zst_ne (by decide)).trans (hF 51 1 rfl))
       rw [if_pos (by assumption)] at hq
       exact hq)
    | (have hq := hq (zx_st h2 51 0 1) ((hF.mono (fun r k hf => by simp only [Bool.or_eq_false_iff] at hf ⊢; exact hf.1)).st rfl) e1 e2 (fun w k a b c => (zst_nr (by omega)).trans (e3 w k a b c)) (fun k a b => (zst_nr (by decide)).trans (e4 k a b)) (fun k a b => (zst_nr (by decide)).trans (e5 k a b)) e6 (zst_eq _ _ _ _) ((zst_ne (by decide)).trans (hF 51 1 rfl))
       rw [if_neg (by assumption)] at hq
       exact hq)
  · intro c3
    refine And.intro (by omega) ?_
    refine s_162 (b := 44) (c := 46) (by unfold zCg; omega) (fun h2 hF e1 e2 e3 e4 e5 e6 => ?_)
    refine And.intro (by omega) ?_
    refine And.intro (by first | exact Or.inl rfl | exact Or.inr rfl | omega) ?_
    first
    | (have hq := hq (zx_st h2 51 0 1) ((hF.mono (fun r k hf => by simp only [Bool.or_eq_false_iff] at hf ⊢; exact hf.1)).st rfl) e1 e2 (fun w k a b c => (zst_nr (by omega)).trans (e3 w k a b c)) (fun k a b => (zst_nr (by decide)).trans (e4 k a b)) (fun k a b => (zst_nr (by decide)).trans (e5 k a b)) e6 (zst_eq _ _ _ _) ((zst_ne (by decide)).trans (hF 51 1 rfl))
       rw [if_pos (by assumption)] at hq
       exact hq)
    | (have hq := hq (zx_st h2 51 0 1) ((hF.mono (fun r k hf => by simp only [Bool.or_eq_false_iff] at hf ⊢; exact hf.1)).st rfl) e1 e2 (fun w k a b c => (zst_nr (by omega)).trans (e3 w k a b c)) (fun k a b => (zst_nr (by decide)).trans (e4 k a b)) (fun k a b => (zst_nr (by decide)).trans (e5 k a b)) e6 (zst_eq _ _ _ _) ((zst_ne (by decide)).trans (hF 51 1 rfl))
       rw [if_neg (by assumption)] at hq
       exact hq)
set_option maxHeartbeats 4000000 in
set_option maxRecDepth 100000 in
/-- C.back -/
theorem s_22_0 {h : zM} {Q : zQ} (hs : h 51 0 = 0 → Q (some (.inl (-2))) h) (hq : ¬ h 51 0 = 0 → ∀ h2, zF (fun r k => (Nat.ble 12 r && Nat.ble r 19) || Nat.beq r 44 || Nat.beq r 45 || (Nat.beq r 0 && (decide (k = 15) || decide (k = 16)))) h h2 → h2 12 7 = h 20 7 → h2 12 8 = h 20 8 → (∀ (w : Nat) (k : Int), w < 6 → 0 ≤ k → k < 8 → h2 (13 + w) k = h (21 + w) k) → (∀ k, 0 ≤ k → k < 120 → h2 19 k = h 27 k) → (∀ k, 0 ≤ k → k < 6 → h2 45 k = h 47 k) → h2 44 2 = h 46 2 →  h2 0 15 = 0 → h2 0 16 = 1 → Q (some (.inl (h2 12 7))) h2) : zR 22 [.inr (.inr 0), .inl 0] h Q := by
  have l50 : zx_ln 50 = (2 : Int) := rfl
  have l51 : zx_ln 51 = (2 : Int) := rfl
  refine zx_met0 zk_22 (Or.inr ⟨_, _, rfl, rfl⟩) (Nat.le_of_ble_eq_true rfl) 1000 (fun hok hM => ?_)
  refine And.intro (fun c1 => absurd c1 (by omega)) (fun c1 => ?_)
  refine And.intro (fun c2 => ?_) (fun c2 => absurd (by omega) c2)
  refine And.intro (by omega) ?_
  constructor
  · intro c3
    first
    | exact hs (by assumption)
    | (refine hq (by assumption) _ (((hF.mono (fun r k hf => ?_)).st rfl).st rfl) e1 e2 (fun w k a b c => ?_) (fun k a b => e4 k a b) (fun k a b => e5 k a b) e6 rfl rfl
       · simp only [Bool.or_eq_false_iff] at hf ⊢
         exact hf.1
       · rw [zst_nr (by omega), zst_nr (by omega)]
         exact e3 w k a b c)
  · intro c3
    refine And.intro (by omega) ?_
    refine s_162 (b := 46) (c := 44) (by unfold zCg; omega) (fun h2 hF e1 e2 e3 e4 e5 e6 => ?_)
    refine And.intro (by first | exact Or.inl rfl | exact Or.inr rfl | omega) ?_
    refine And.intro (by first | exact Or.inl rfl | exact Or.inr rfl | omega) ?_
    first
    | exact hs (by assumption)
    | (refine hq (by assumption) _ (((hF.mono (fun r k hf => ?_)).st rfl).st rfl) e1 e2 (fun w k a b c => ?_) (fun k a b => e4 k a b) (fun k a b => e5 k a b) e6 rfl rfl
       · simp only [Bool.or_eq_false_iff] at hf ⊢
         exact hf.1
       · rw [zst_nr (by omega), zst_nr (by omega)]
         exact e3 w k a b c)
set_option maxHeartbeats 4000000 in
set_option maxRecDepth 100000 in
/-- C.keep -/
theorem s_21_1 {h : zM} {Q : zQ} (hq : ∀ h2, zF (fun r _ => (Nat.ble 28 r && Nat.ble r 35) || Nat.beq r 48 || Nat.beq r 49 || Nat.beq r 51) h h2 → h2 28 7 = h 12 7 → h2 28 8 = h 12 8 → (∀ (w : Nat) (k : Int), w < 6 → 0 ≤ k → k < 8 → h2 (29 + w) k = h (13 + w) k) → (∀ k, 0 ≤ k → k < 120 → h2 35 k = h 19 k) → (∀ k, 0 ≤ k → k < 6 → h2 49 k = h 45 k) → h2 48 2 = h 44 2 →  h2 51 1 = 1 → h2 51 0 = h 51 0 → Q (some (.inl (if h 51 1 = 0 then 0 else 1))) h2) : zR 21 [.inr (.inr 0), .inl 1] h Q := by
  have l50 : zx_ln 50 = (2 : Int) := rfl
  have l51 : zx_ln 51 = (2 : Int) := rfl
  refine zx_met0 zk_21 (Or.inr ⟨_, _, rfl, rfl⟩) (Nat.le_of_ble_eq_true rfl) 1000 (fun hok hM => ?_)
  refine And.intro (fun c1 => absurd c1 (by omega)) (fun c1 => ?_)
  refine And.intro (fun c2 => ?_) (fun c2 => absurd (by omega) c2)
  refine And.intro (by omega) ?_
  constructor
  · intro c3
    refine And.intro (by omega) ?_
    refine s_162 (b := 44) (c := 48) (by unfold zCg; omega) (fun h2 hF e1 e2 e3 e4 e5 e6 => ?_)
    refine And.intro (by omega) ?_
    refine And.intro (by first | exact Or.inl rfl | exact Or.inr rfl | omega) ?_
    first
    | (have hq := hq (zx_st h2 51 1 1) ((hF.mono (fun r k hf => by simp only [Bool.or_eq_false_iff] at hf ⊢; exact hf.1)).st rfl) e1 e2 (fun w k a b c => (zst_nr (by omega)).trans (e3 w k a b c)) (fun k a b => (zst_nr (by decide)).trans (e4 k a b)) (fun k a b => (zst_nr (by decide)).trans (e5 k a b)) e6 (zst_eq _ _ _ _) ((zst_ne (by decide)).trans (hF 51 0 rfl))
       rw [if_pos (by assumption)] at hq
       exact hq)
    | (have hq := hq (zx_st h2 51 1 1) ((hF.mono (fun r k hf => by simp only [Bool.or_eq_false_iff] at hf ⊢; exact hf.1)).st rfl) e1 e2 (fun w k a b c => (zst_nr (by omega)).trans (e3 w k a b c)) (fun k a b => (zst_nr (by decide)).trans (e4 k a b)) (fun k a b => (zst_nr (by decide)).trans (e5 k a b)) e6 (zst_eq _ _ _ _) ((zst_ne (by decide)).trans (hF 51 0 rfl))
       rw [if_neg (by assumption)] at hq
       exact hq)
  · intro c3
    refine And.intro (by omega) ?_
    refine s_162 (b := 44) (c := 48) (by unfold zCg; omega) (fun h2 hF e1 e2 e3 e4 e5 e6 => ?_)
    refine And.intro (by omega) ?_
    refine And.intro (by first | exact Or.inl rfl | exact Or.inr rfl | omega) ?_
    first
    | (have hq := hq (zx_st h2 51 1 1) ((hF.mono (fun r k hf => by simp only [Bool.or_eq_false_iff] at hf ⊢; exact hf.1)).st rfl) e1 e2 (fun w k a b c => (zst_nr (by omega)).trans (e3 w k a b c)) (fun k a b => (zst_nr (by decide)).trans (e4 k a b)) (fun k a b => (zst_nr (by decide)).trans (e5 k a b)) e6 (zst_eq _ _ _ _) ((zst_ne (by decide)).trans (hF 51 0 rfl))
       rw [if_pos (by assumption)] at hq
       exact hq)
    | (have hq := hq (zx_st h2 51 1 1) ((hF.mono (fun r k hf => by simp only [Bool.or_eq_false_iff] at hf ⊢; exact hf.1)).st rfl) e1 e2 (fun w k a b c => (zst_nr (by omega)).trans (e3 w k a b c)) (fun k a b => (zst_nr (by decide)).trans (e4 k a b)) (fun k a b => (zst_nr (by decide)).trans (e5 k a b)) e6 (zst_eq _ _ _ _) ((zst_ne (by decide)).trans (hF 51 0 rfl))
       rw [if_neg (by assumption)] at hq
       exact hq)
set_option maxHeartbeats 4000000 in
set_option maxRecDepth 100000 in
/-- C.back -/
theorem s_22_1 {h : zM} {Q : zQ} (hs : h 51 1 = 0 → Q (some (.inl (-2))) h) (hq : ¬ h 51 1 = 0 → ∀ h2, zF (fun r k => (Nat.ble 12 r && Nat.ble r 19) || Nat.beq r 44 || Nat.beq r 45 || (Nat.beq r 0 && (decide (k = 15) || decide (k = 16)))) h h2 → h2 12 7 = h 28 7 → h2 12 8 = h 28 8 → (∀ (w : Nat) (k : Int), w < 6 → 0 ≤ k → k < 8 → h2 (13 + w) k = h (29 + w) k) → (∀ k, 0 ≤ k → k < 120 → h2 19 k = h 35 k) → (∀ k, 0 ≤ k → k < 6 → h2 45 k = h 49 k) → h2 44 2 = h 48 2 →  h2 0 15 = 0 → h2 0 16 = 1 → Q (some (.inl (h2 12 7))) h2) : zR 22 [.inr (.inr 0), .inl 1] h Q := by
  have l50 : zx_ln 50 = (2 : Int) := rfl
  have l51 : zx_ln 51 = (2 : Int) := rfl
  refine zx_met0 zk_22 (Or.inr ⟨_, _, rfl, rfl⟩) (Nat.le_of_ble_eq_true rfl) 1000 (fun hok hM => ?_)
  refine And.intro (fun c1 => absurd c1 (by omega)) (fun c1 => ?_)
  refine And.intro (fun c2 => ?_) (fun c2 => absurd (by omega) c2)
  refine And.intro (by omega) ?_
  constructor
  · intro c3
    first
    | exact hs (by assumption)
    | (refine hq (by assumption) _ (((hF.mono (fun r k hf => ?_)).st rfl).st rfl) e1 e2 (fun w k a b c => ?_) (fun k a b => e4 k a b) (fun k a b => e5 k a b) e6 rfl rfl
       · simp only [Bool.or_eq_false_iff] at hf ⊢
         exact hf.1
       · rw [zst_nr (by omega), zst_nr (by omega)]
         exact e3 w k a b c)
  · intro c3
    refine And.intro (by omega) ?_
    refine s_162 (b := 48) (c := 44) (by unfold zCg; omega) (fun h2 hF e1 e2 e3 e4 e5 e6 => ?_)
    refine And.intro (by first | exact Or.inl rfl | exact Or.inr rfl | omega) ?_
    refine And.intro (by first | exact Or.inl rfl | exact Or.inr rfl | omega) ?_
    first
    | exact hs (by assumption)
    | (refine hq (by assumption) _ (((hF.mono (fun r k hf => ?_)).st rfl).st rfl) e1 e2 (fun w k a b c => ?_) (fun k a b => e4 k a b) (fun k a b => e5 k a b) e6 rfl rfl
       · simp only [Bool.or_eq_false_iff] at hf ⊢
         exact hf.1
       · rw [zst_nr (by omega), zst_nr (by omega)]
         exact e3 w k a b c)
set_option maxHeartbeats 4000000 in
set_option maxRecDepth 100000 in
/-- C.keep -/
theorem s_21_b {k : Int} (hk : ¬ (0 ≤ k ∧ k < 2)) {h : zM} {Q : zQ} (hq : Q (some (.inl (-1))) h) : zR 21 [.inr (.inr 0), .inl k] h Q := by
  refine zx_met0 zk_21 (Or.inr ⟨_, _, rfl, rfl⟩) (Nat.le_of_ble_eq_true rfl) 1000 (fun hok hM => ?_)
  constructor
  · intro c1
    exact hq
  · intro c1
    refine And.intro (fun c2 => absurd c2 (by omega)) (fun c2 => ?_)
    exact hq
set_option maxHeartbeats 4000000 in
set_option maxRecDepth 100000 in
/-- C.back -/
theorem s_22_b {k : Int} (hk : ¬ (0 ≤ k ∧ k < 2)) {h : zM} {Q : zQ} (hq : Q (some (.inl (-1))) h) : zR 22 [.inr (.inr 0), .inl k] h Q := by
  refine zx_met0 zk_22 (Or.inr ⟨_, _, rfl, rfl⟩) (Nat.le_of_ble_eq_true rfl) 1000 (fun hok hM => ?_)
  constructor
  · intro c1
    exact hq
  · intro c1
    refine And.intro (fun c2 => absurd c2 (by omega)) (fun c2 => ?_)
    exact hq
set_option maxHeartbeats 4000000 in
set_option maxRecDepth 100000 in
/-- M.keep -/
theorem s_124 {k : Int} {h : zM} {Q : zQ} (h0 : ¬ (0 ≤ k ∧ k < 2) → Q (some (.inl (-1))) h) (h1 : 0 ≤ k ∧ k < 2 → ∀ h2, zF (fun r _ => Nat.beq r 82 || Nat.beq r 103) h h2 → (∀ i, 0 ≤ i → i < 177 → h2 82 (177 * k + 177 + i) = h 82 i) → (∀ i, ¬ (177 * k + 177 ≤ i ∧ i < 177 * k + 177 + 177) → h2 82 i = h 82 i) → h2 103 k = 1 → (∀ i, ¬ i = k → h2 103 i = h 103 i) → Q (some (.inl (if h 103 k = 0 then 0 else 1))) h2) : zR 124 [.inr (.inr 81), .inl k] h Q := by
  have l82 : zx_ln 82 = (708 : Int) := rfl
  have l103 : zx_ln 103 = (2 : Int) := rfl
  refine zx_met0 zk_124 (Or.inr ⟨_, _, rfl, rfl⟩) (Nat.le_of_ble_eq_true rfl) 1000 (fun hok hM => ?_)
  refine s_50 (fun cv => ?_) (fun cv => ?_)
  · refine And.intro (fun c => absurd c (by decide)) (fun _ => ?_)
    refine And.intro (by omega) ?_
    constructor
    · intro c1
      refine And.intro (by omega) ?_
      refine And.intro (by omega) ?_
      refine s_67 (by omega) (by omega) (by omega) (fun h2 hF e1 e2 => ?_)
      refine And.intro (by omega) ?_
      refine And.intro (by first | exact Or.inl rfl | exact Or.inr rfl | omega) ?_
      first
      | exact h0 (by omega)
      | (have hq := h1 (by omega) (zx_st h2 103 k 1) ((hF.mono (fun r k hf => by simp only [Bool.or_eq_false_iff] at hf ⊢; exact hf.1)).st rfl) (fun i a b => by have := e1 i a b; rw [Int.zero_add] at this; rw [zst_nr (by decide)]; exact this) (fun i a => (zst_nr (by decide)).trans (e2 i a)) (zst_eq _ _ _ _) (fun i a => (zst_ne a).trans (hF 103 i rfl))
         first
         | (rw [if_pos (by assumption)] at hq; exact hq)
         | (rw [if_neg (by assumption)] at hq; exact hq))
    · intro c1
      refine And.intro (by omega) ?_
      refine And.intro (by omega) ?_
      refine s_67 (by omega) (by omega) (by omega) (fun h2 hF e1 e2 => ?_)
      refine And.intro (by omega) ?_
      refine And.intro (by first | exact Or.inl rfl | exact Or.inr rfl | omega) ?_
      first
      | exact h0 (by omega)
      | (have hq := h1 (by omega) (zx_st h2 103 k 1) ((hF.mono (fun r k hf => by simp only [Bool.or_eq_false_iff] at hf ⊢; exact hf.1)).st rfl) (fun i a b => by have := e1 i a b; rw [Int.zero_add] at this; rw [zst_nr (by decide)]; exact this) (fun i a => (zst_nr (by decide)).trans (e2 i a)) (zst_eq _ _ _ _) (fun i a => (zst_ne a).trans (hF 103 i rfl))
         first
         | (rw [if_pos (by assumption)] at hq; exact hq)
         | (rw [if_neg (by assumption)] at hq; exact hq))
  · refine And.intro (fun _ => ?_) (fun c => absurd (by decide) c)
    first
    | exact h0 (by omega)
    | (have hq := h1 (by omega) (zx_st h2 103 k 1) ((hF.mono (fun r k hf => by simp only [Bool.or_eq_false_iff] at hf ⊢; exact hf.1)).st rfl) (fun i a b => by have := e1 i a b; rw [Int.zero_add] at this; rw [zst_nr (by decide)]; exact this) (fun i a => (zst_nr (by decide)).trans (e2 i a)) (zst_eq _ _ _ _) (fun i a => (zst_ne a).trans (hF 103 i rfl))
       first
       | (rw [if_pos (by assumption)] at hq; exact hq)
       | (rw [if_neg (by assumption)] at hq; exact hq))
set_option maxHeartbeats 4000000 in
set_option maxRecDepth 100000 in
/-- M.back -/
theorem s_125 {k : Int} {h : zM} {Q : zQ} (h0 : ¬ (0 ≤ k ∧ k < 2) → Q (some (.inl (-1))) h) (hs : 0 ≤ k ∧ k < 2 → h 103 k = 0 → Q (some (.inl (-2))) h) (h1 : 0 ≤ k ∧ k < 2 → ¬ h 103 k = 0 → ∀ h2, zF (fun r k => Nat.beq r 82 || (Nat.beq r 81 && (decide (k = 14) || decide (k = 36)))) h h2 → (∀ i, 0 ≤ i → i < 177 → h2 82 i = h 82 (177 * k + 177 + i)) → (∀ i, ¬ (0 ≤ i ∧ i < 177) → h2 82 i = h 82 i) → h2 81 14 = 0 → h2 81 36 = 0 → Q (some (.inl (h2 82 175))) h2) : zR 125 [.inr (.inr 81), .inl k] h Q := by
  have l82 : zx_ln 82 = (708 : Int) := rfl
  have l103 : zx_ln 103 = (2 : Int) := rfl
  refine zx_met0 zk_125 (Or.inr ⟨_, _, rfl, rfl⟩) (Nat.le_of_ble_eq_true rfl) 1000 (fun hok hM => ?_)
  refine s_50 (fun cv => ?_) (fun cv => ?_)
  · refine And.intro (fun c => absurd c (by decide)) (fun _ => ?_)
    refine And.intro (by omega) ?_
    constructor
    · intro c1
      first
      | exact h0 (by omega)
      | exact hs (by omega) (by assumption)
      | (refine h1 (by omega) (by assumption) _ (((hF.mono (fun r k hf => ?_)).st rfl).st rfl) (fun i a b => ?_) (fun i a => ?_) rfl rfl
         · simp only [Bool.or_eq_false_iff] at hf ⊢
           exact hf.1
         · have := e1 i a b
           rw [Int.zero_add] at this
           exact this
         · exact e2 i (by omega))
    · intro c1
      refine And.intro (by omega) ?_
      refine And.intro (by omega) ?_
      refine s_67 (by omega) (by omega) (by omega) (fun h2 hF e1 e2 => ?_)
      refine And.intro (by first | exact Or.inl rfl | exact Or.inr rfl | omega) ?_
      refine And.intro (by first | exact Or.inl rfl | exact Or.inr rfl | omega) ?_
      refine And.intro (by omega) ?_
      first
      | exact h0 (by omega)
      | exact hs (by omega) (by assumption)
      | (refine h1 (by omega) (by assumption) _ (((hF.mono (fun r k hf => ?_)).st rfl).st rfl) (fun i a b => ?_) (fun i a => ?_) rfl rfl
         · simp only [Bool.or_eq_false_iff] at hf ⊢
           exact hf.1
         · have := e1 i a b
           rw [Int.zero_add] at this
           exact this
         · exact e2 i (by omega))
  · refine And.intro (fun _ => ?_) (fun c => absurd (by decide) c)
    first
    | exact h0 (by omega)
    | exact hs (by omega) (by assumption)
    | (refine h1 (by omega) (by assumption) _ (((hF.mono (fun r k hf => ?_)).st rfl).st rfl) (fun i a b => ?_) (fun i a => ?_) rfl rfl
       · simp only [Bool.or_eq_false_iff] at hf ⊢
         exact hf.1
       · have := e1 i a b
         rw [Int.zero_add] at this
         exact this
       · exact e2 i (by omega))
end
section
/-! CONTRACTS: sheets, sums: class and reference -/
theorem zsb_Sh {k : Int} (hk : 0 ≤ k ∧ k < 4) : zSh (zsb k) := by
  unfold zSh zsb
  omega
theorem z_b8 (v : Int) : zx_shr (zx_shl v 24) 24 = zx_b v := by
  unfold zx_shr zx_shl zx_b
  rw [show Int32.ofInt 24 &&& 31 = 24 from by decide, Int32.ofInt_toInt]
  refine congrArg Int32.toInt ?_
  generalize Int32.ofInt v = x
  refine Int32.toBitVec_inj.mp ?_
  show BitVec.sshiftRight (x.toBitVec <<< 24) 24 = (x.toBitVec.signExtend 8).signExtend 32
  generalize x.toBitVec = b
  apply BitVec.eq_of_getLsbD_eq
  intro i hi
  simp [BitVec.getLsbD_sshiftRight, BitVec.getLsbD_shiftLeft, BitVec.getLsbD_signExtend, BitVec.msb_eq_getLsbD_last]
  by_cases h8 : i < 8
  · have a1 : ¬ 32 ≤ i := by omega
    have a2 : 24 + i < 32 := by omega
    have a3 : ¬ 24 + i < 24 := by omega
    simp [h8, hi, a1, a2, a3]
  · have a2 : ¬ 24 + i < 32 := by omega
    simp [h8, hi, a2, BitVec.getElem_signExtend]
theorem z_s16 (v : Int) : zx_shr (zx_shl v 16) 16 = zx_s v := by
  unfold zx_shr zx_shl zx_s
  rw [show Int32.ofInt 16 &&& 31 = 16 from by decide, Int32.ofInt_toInt]
  refine congrArg Int32.toInt ?_
  generalize Int32.ofInt v = x
  refine Int32.toBitVec_inj.mp ?_
  show BitVec.sshiftRight (x.toBitVec <<< 16) 16 = (x.toBitVec.signExtend 16).signExtend 32
  generalize x.toBitVec = b
  apply BitVec.eq_of_getLsbD_eq
  intro i hi
  simp [BitVec.getLsbD_sshiftRight, BitVec.getLsbD_shiftLeft, BitVec.getLsbD_signExtend, BitVec.msb_eq_getLsbD_last]
  by_cases h8 : i < 16
  · have a1 : ¬ 32 ≤ i := by omega
    have a2 : 16 + i < 32 := by omega
    have a3 : ¬ 16 + i < 16 := by omega
    simp [h8, hi, a1, a2, a3]
  · have a2 : ¬ 16 + i < 32 := by omega
    simp [h8, hi, a2, BitVec.getElem_signExtend]
set_option maxHeartbeats 4000000 in
set_option maxRecDepth 100000 in
/-- C.sheet -/
theorem s_23 {k l n : Int} (hk : 0 ≤ k ∧ k < 4) {h : zM} {Q : zQ} (hb : ¬ ((0 ≤ l ∧ l < 3) ∧ n ≤ 40) → Q (some (.inl (-1))) h) (hn : (0 ≤ l ∧ l < 3) ∧ n < 0 → Q (some (.inl (-14))) h) (h1 : (0 ≤ l ∧ l < 3) ∧ 0 ≤ n ∧ n ≤ 40 → ∀ h2, zF (fun r _ => Nat.beq r (zsb k) || Nat.beq r (zsb k + 1)) h h2 → h2 (zsb k) 1 = l → h2 (zsb k) 2 = n → (∀ i, 0 ≤ i → i < 40 → h2 (zsb k + 1) i = 0) → Q (some (.inl 1)) h2) : zR 23 [.inr (.inr 0), .inl k, .inl l, .inl n] h Q := by
  have l72 : zx_ln 72 = (4 : Int) := rfl
  rcases (show k = 0 ∨ k = 1 ∨ k = 2 ∨ k = 3 by omega) with rfl | rfl | rfl | rfl
  all_goals
    refine zx_met0 zk_23 (Or.inr ⟨_, _, rfl, rfl⟩) (Nat.le_of_ble_eq_true rfl) 1000 (fun hok hM => ?_)
    refine s_40 (fun cv => ?_) (fun cv => absurd (by omega) cv)
    refine And.intro (fun c => absurd c (by decide)) (fun _ => ?_)
    refine s_41 (fun cl => ?_) (fun cl => ?_)
    · refine And.intro (fun c => absurd c (by decide)) (fun _ => ?_)
      constructor
      · intro c1
        first | exact hb (by omega) | exact hn (by omega) | exact h1 (by omega) h2 e1 e2 e3 e4
      · intro c1
        constructor
        · intro c2
          first | exact hb (by omega) | exact hn (by omega) | exact h1 (by omega) h2 e1 e2 e3 e4
        · intro c2
          refine And.intro (by omega) ?_
          refine s_184 (by first | exact Or.inl rfl | exact Or.inr (Or.inl rfl) | exact Or.inr (Or.inr (Or.inl rfl)) | exact Or.inr (Or.inr (Or.inr rfl))) (by omega) (fun h2 e1 e2 e3 e4 => ?_)
          first | exact hb (by omega) | exact hn (by omega) | exact h1 (by omega) h2 e1 e2 e3 e4
    · refine And.intro (fun _ => ?_) (fun c => absurd (by decide) c)
      first | exact hb (by omega) | exact hn (by omega) | exact h1 (by omega) h2 e1 e2 e3 e4
set_option maxHeartbeats 4000000 in
set_option maxRecDepth 100000 in
/-- C.sheet -/
theorem s_23_b {k l n : Int} (hk : ¬ (0 ≤ k ∧ k < 4)) {h : zM} {Q : zQ} (hq : Q (some (.inl (-1))) h) : zR 23 [.inr (.inr 0), .inl k, .inl l, .inl n] h Q := by
  refine zx_met0 zk_23 (Or.inr ⟨_, _, rfl, rfl⟩) (Nat.le_of_ble_eq_true rfl) 1000 (fun hok hM => ?_)
  refine s_40 (fun cv => absurd cv hk) (fun cv => ?_)
  refine And.intro (fun _ => ?_) (fun c => absurd (by decide) c)
  exact hq
set_option maxHeartbeats 4000000 in
set_option maxRecDepth 100000 in
/-- M.sheet -/
theorem s_126 {k l n : Int} {h : zM} {Q : zQ} (hb : ¬ ((0 ≤ k ∧ k < 4) ∧ (0 ≤ l ∧ l < 3) ∧ n ≤ 40) → Q (some (.inl (-1))) h) (hn : (0 ≤ k ∧ k < 4) ∧ (0 ≤ l ∧ l < 3) ∧ n < 0 → Q (some (.inl (-14))) h) (h1 : (0 ≤ k ∧ k < 4) ∧ (0 ≤ l ∧ l < 3) ∧ 0 ≤ n ∧ n ≤ 40 → ∀ h2, zF (fun r _ => Nat.beq r 104 || Nat.beq r 105 || Nat.beq r 106) h h2 → h2 104 = zx_st h 104 k l 104 → h2 105 = zx_st h 105 k n 105 → (∀ i, 0 ≤ i → i < 40 → h2 106 (40 * k + i) = 0) → (∀ i, ¬ (40 * k ≤ i ∧ i < 40 * k + 40) → h2 106 i = h 106 i) → Q (some (.inl 1)) h2) : zR 126 [.inr (.inr 81), .inl k, .inl l, .inl n] h Q := by
  have l104 : zx_ln 104 = (4 : Int) := rfl
  have l105 : zx_ln 105 = (4 : Int) := rfl
  have l106 : zx_ln 106 = (160 : Int) := rfl
  refine zx_met zk_126 (Or.inr ⟨_, _, rfl, rfl⟩) (Nat.le_of_ble_eq_true rfl) (fun _ => false) 1000 (fun m i L S h2 => i = 33 ∧ S = [] ∧ ((0 ≤ k ∧ k < 4) ∧ (0 ≤ l ∧ l < 3) ∧ 0 ≤ n ∧ n ≤ 40) ∧ ∃ j : Nat, L = [some (.inr (.inr 81)), some (.inl k), some (.inl l), some (.inl n), some (.inl (j : Int))] ∧ j ≤ 40 ∧ m = 40 - j ∧ zF (fun r _ => Nat.beq r 104 || Nat.beq r 105 || Nat.beq r 106) h h2 ∧ h2 104 = zx_st h 104 k l 104 ∧ h2 105 = zx_st h 105 k n 105 ∧ (∀ i, 0 ≤ i → i < (j : Int) → h2 106 (40 * k + i) = 0) ∧ ∀ i, ¬ (40 * k ≤ i ∧ i < 40 * k + j) → h2 106 i = h 106 i) (fun hok hM => ?_) (fun hok hM => ?_)
  · refine s_50 (fun cv => ?_) (fun cv => ?_)
    · refine And.intro (fun c => absurd c (by decide)) (fun _ => ?_)
      refine s_50 (fun cv => ?_) (fun cv => ?_)
      · refine And.intro (fun c => absurd c (by decide)) (fun _ => ?_)
        constructor
        · intro c1
          exact hb (by omega)
        · intro c1
          constructor
          · intro c2
            exact hn (by omega)
          · intro c2
            refine And.intro (by omega) ?_
            refine And.intro (by omega) ?_
            refine ⟨40, rfl, rfl, by omega, 0, rfl, by omega, rfl, (zF.rf.st rfl).st rfl, ?_, ?_, fun i a b => by omega, fun i _ => rfl⟩
            · exact zst_row (by decide)
            · rfl
      · refine And.intro (fun _ => ?_) (fun c => absurd (by decide) c)
        exact hb (by omega)
    · refine And.intro (fun _ => ?_) (fun c => absurd (by decide) c)
      exact hb (by omega)
  · rintro m i L S h2 hM2 ⟨rfl, rfl, hc, j, rfl, hj, hm, hF, e1, e2, e3, e4⟩
    constructor
    · intro c3
      refine And.intro (by omega) ?_
      refine And.intro (by omega) ?_
      refine And.intro (by omega) ?_
      refine And.intro (by omega) ?_
      refine ⟨40 - (j + 1), by omega, rfl, rfl, hc, j + 1, rfl, by omega, rfl, hF.st rfl, ?_, ?_, fun i a b => ?_, fun i a => ?_⟩
      · rw [zst_row (by decide)]; exact e1
      · rw [zst_row (by decide)]; exact e2
      · by_cases hi : i = (j : Int)
        · rw [hi]; exact zst_eq _ _ _ _
        · rw [zst_ne (by omega)]; exact e3 i a (by omega)
      · rw [zst_ne (by omega)]; exact e4 i (by omega)
    · intro c3
      have hj2 : j = 40 := by omega
      subst hj2
      exact h1 hc h2 hF e1 e2 e3 e4
set_option maxHeartbeats 4000000 in
set_option maxRecDepth 100000 in
/-- C.lay -/
theorem s_24 {k i v : Int} (hk : 0 ≤ k ∧ k < 4) {h : zM} {Q : zQ} (hl : h (zsb k) 2 ≤ 40) (hn : h (zsb k) 1 = -4 → Q (some (.inl (-11))) h) (hi : ¬ h (zsb k) 1 = -4 → ¬ (0 ≤ i ∧ i < h (zsb k) 2) → Q (some (.inl (-12))) h) (h1 : ¬ h (zsb k) 1 = -4 → 0 ≤ i ∧ i < h (zsb k) 2 → Q (some (.inl 1)) (zx_st h (zsb k + 1) i (if h (zsb k) 1 = 0 then zx_b v else if h (zsb k) 1 = 1 then zx_s v else v))) : zR 24 [.inr (.inr 0), .inl k, .inl i, .inl v] h Q := by
  have l72 : zx_ln 72 = (4 : Int) := rfl
  rcases (show k = 0 ∨ k = 1 ∨ k = 2 ∨ k = 3 by omega) with rfl | rfl | rfl | rfl
  all_goals
    refine zx_met0 zk_24 (Or.inr ⟨_, _, rfl, rfl⟩) (Nat.le_of_ble_eq_true rfl) 1000 (fun hok hM => ?_)
    refine s_40 (fun cv => ?_) (fun cv => absurd (by omega) cv)
    refine And.intro (fun c => absurd c (by decide)) (fun _ => ?_)
    refine And.intro (by omega) ?_
    refine s_185 (by first | exact Or.inl rfl | exact Or.inr (Or.inl rfl) | exact Or.inr (Or.inr (Or.inl rfl)) | exact Or.inr (Or.inr (Or.inr rfl))) (fun d1 => ?_) (fun d1 d2 => ?_) (fun d1 d2 => ?_)
    · refine And.intro (fun c => absurd c (by decide)) (fun _ => ?_)
      refine And.intro (by omega) ?_
      first | exact hn d1 | exact hi d1 d2 | exact h1 d1 d2
    · refine And.intro (fun c => absurd c (by decide)) (fun _ => ?_)
      refine And.intro (by omega) ?_
      first | exact hn d1 | exact hi d1 d2 | exact h1 d1 d2
    · refine And.intro (fun _ => ?_) (fun c => absurd (by decide) c)
      refine And.intro (by omega) ?_
      refine s_188 (by first | exact Or.inl rfl | exact Or.inr (Or.inl rfl) | exact Or.inr (Or.inr (Or.inl rfl)) | exact Or.inr (Or.inr (Or.inr rfl))) hl (fun cw => ?_) (fun cw => absurd ⟨d1, d2⟩ cw)
      first | exact hn d1 | exact hi d1 d2 | exact h1 d1 d2
set_option maxHeartbeats 4000000 in
set_option maxRecDepth 100000 in
/-- C.lay -/
theorem s_24_b {k i v : Int} (hk : ¬ (0 ≤ k ∧ k < 4)) {h : zM} {Q : zQ} (hq : Q (some (.inl (-1))) h) : zR 24 [.inr (.inr 0), .inl k, .inl i, .inl v] h Q := by
  refine zx_met0 zk_24 (Or.inr ⟨_, _, rfl, rfl⟩) (Nat.le_of_ble_eq_true rfl) 1000 (fun hok hM => ?_)
  refine s_40 (fun cv => absurd cv hk) (fun cv => ?_)
  refine And.intro (fun _ => ?_) (fun c => absurd (by decide) c)
  exact hq
set_option maxHeartbeats 4000000 in
set_option maxRecDepth 100000 in
/-- M.lay -/
theorem s_127 {k i v : Int} {h : zM} {Q : zQ} (hl : ∀ k, 0 ≤ k → k < 4 → 0 ≤ h 105 k ∧ h 105 k ≤ 40) (hb : ¬ (0 ≤ k ∧ k < 4) → Q (some (.inl (-1))) h) (hn : 0 ≤ k ∧ k < 4 → h 104 k = -4 → Q (some (.inl (-11))) h) (hi : 0 ≤ k ∧ k < 4 → ¬ h 104 k = -4 → ¬ (0 ≤ i ∧ i < h 105 k) → Q (some (.inl (-12))) h) (h1 : 0 ≤ k ∧ k < 4 → ¬ h 104 k = -4 → 0 ≤ i ∧ i < h 105 k → Q (some (.inl 1)) (zx_st h 106 (40 * k + i) (if h 104 k = 0 then zx_shr (zx_shl v 24) 24 else if h 104 k = 1 then zx_shr (zx_shl v 16) 16 else v))) : zR 127 [.inr (.inr 81), .inl k, .inl i, .inl v] h Q := by
  have l104 : zx_ln 104 = (4 : Int) := rfl
  have l105 : zx_ln 105 = (4 : Int) := rfl
  have l106 : zx_ln 106 = (160 : Int) := rfl
  refine zx_met0 zk_127 (Or.inr ⟨_, _, rfl, rfl⟩) (Nat.le_of_ble_eq_true rfl) 1000 (fun hok hM => ?_)
  refine s_50 (fun cv => ?_) (fun cv => ?_)
  · refine And.intro (fun c => absurd c (by decide)) (fun _ => ?_)
    refine And.intro (by first | omega | (have := hl k (by omega) (by omega); omega)) ?_
    constructor
    · intro c1
      first | exact hb (by omega) | exact hn (by omega) (by omega) | exact hi (by omega) (by omega) (by omega) | (have hq := h1 (by omega) (by omega) (by omega); (first | (rw [if_pos (by omega)] at hq; exact hq) | (rw [if_neg (by omega), if_pos (by omega)] at hq; exact hq) | (rw [if_neg (by omega), if_neg (by omega)] at hq; exact hq)))
    · intro c1
      refine And.intro (by first | omega | (have := hl k (by omega) (by omega); omega)) ?_
      refine And.intro (by first | omega | (have := hl k (by omega) (by omega); omega)) ?_
      refine s_50 (fun cv => ?_) (fun cv => ?_)
      · refine And.intro (fun c => absurd c (by decide)) (fun _ => ?_)
        refine And.intro (by first | omega | (have := hl k (by omega) (by omega); omega)) ?_
        refine And.intro (by first | omega | (have := hl k (by omega) (by omega); omega)) ?_
        refine And.intro (by first | omega | (have := hl k (by omega) (by omega); omega)) ?_
        constructor
        · intro c2
          refine And.intro (by first | omega | (have := hl k (by omega) (by omega); omega)) ?_
          first | exact hb (by omega) | exact hn (by omega) (by omega) | exact hi (by omega) (by omega) (by omega) | (have hq := h1 (by omega) (by omega) (by omega); (first | (rw [if_pos (by omega)] at hq; exact hq) | (rw [if_neg (by omega), if_pos (by omega)] at hq; exact hq) | (rw [if_neg (by omega), if_neg (by omega)] at hq; exact hq)))
        · intro c2
          refine And.intro (by first | omega | (have := hl k (by omega) (by omega); omega)) ?_
          constructor
          · intro c3
            refine And.intro (by first | omega | (have := hl k (by omega) (by omega); omega)) ?_
            first | exact hb (by omega) | exact hn (by omega) (by omega) | exact hi (by omega) (by omega) (by omega) | (have hq := h1 (by omega) (by omega) (by omega); (first | (rw [if_pos (by omega)] at hq; exact hq) | (rw [if_neg (by omega), if_pos (by omega)] at hq; exact hq) | (rw [if_neg (by omega), if_neg (by omega)] at hq; exact hq)))
          · intro c3
            refine And.intro (by first | omega | (have := hl k (by omega) (by omega); omega)) ?_
            first | exact hb (by omega) | exact hn (by omega) (by omega) | exact hi (by omega) (by omega) (by omega) | (have hq := h1 (by omega) (by omega) (by omega); (first | (rw [if_pos (by omega)] at hq; exact hq) | (rw [if_neg (by omega), if_pos (by omega)] at hq; exact hq) | (rw [if_neg (by omega), if_neg (by omega)] at hq; exact hq)))
      · refine And.intro (fun _ => ?_) (fun c => absurd (by decide) c)
        first | exact hb (by omega) | exact hn (by omega) (by omega) | exact hi (by omega) (by omega) (by omega) | (have hq := h1 (by omega) (by omega) (by omega); (first | (rw [if_pos (by omega)] at hq; exact hq) | (rw [if_neg (by omega), if_pos (by omega)] at hq; exact hq) | (rw [if_neg (by omega), if_neg (by omega)] at hq; exact hq)))
  · refine And.intro (fun _ => ?_) (fun c => absurd (by decide) c)
    first | exact hb (by omega) | exact hn (by omega) (by omega) | exact hi (by omega) (by omega) (by omega) | (have hq := h1 (by omega) (by omega) (by omega); (first | (rw [if_pos (by omega)] at hq; exact hq) | (rw [if_neg (by omega), if_pos (by omega)] at hq; exact hq) | (rw [if_neg (by omega), if_neg (by omega)] at hq; exact hq)))
theorem zsum_b {g : Int → Int} {n : Nat} {c : Int} (hg : ∀ v : Nat, v < n → 0 ≤ g v ∧ g v ≤ c) : ∀ k, k ≤ n → 0 ≤ zit (fun v s => s + g v) k 0 ∧ zit (fun v s => s + g v) k 0 ≤ c * k := by
  intro k
  induction k with
  | zero => intro _; exact ⟨Int.le_refl _, by show (0 : Int) ≤ c * 0; omega⟩
  | succ k ih =>
    intro hk
    have a := ih (by omega)
    have b := hg k (by omega)
    show 0 ≤ zit (fun v s => s + g v) k 0 + g k ∧ zit (fun v s => s + g v) k 0 + g k ≤ c * ((k : Int) + 1)
    rw [Int.mul_add]
    omega
set_option maxHeartbeats 4000000 in
set_option maxRecDepth 100000 in
/-- C.startsSum -/
theorem s_32 {h : zM} {Q : zQ} (hs : ∀ v : Nat, v < 6 → 0 ≤ h 70 v ∧ h 70 v ≤ 99) (hq : Q (some (.inl (zit (fun v s => s + h 70 v) 6 0))) h) : zR 32 [.inr (.inr 0)] h Q := by
  have l70 : zx_ln 70 = (6 : Int) := rfl
  have hb := zsum_b hs
  refine zx_met zk_32 (Or.inr ⟨_, _, rfl, rfl⟩) (Nat.le_of_ble_eq_true rfl) (fun _ => false) 1000 (fun m i L S h2 => i = 4 ∧ S = [] ∧ h2 = h ∧ ∃ k : Nat, L = [some (.inr (.inr 0)), some (.inl (zit (fun v s => s + h 70 v) k 0)), some (.inl (k : Int))] ∧ k ≤ 6 ∧ m = 6 - k) (fun hok hM => ?_) (fun hok hM => ?_)
  · exact ⟨6, rfl, rfl, rfl, 0, rfl, by omega, rfl⟩
  · rintro m i L S h2 hM2 ⟨rfl, rfl, rfl, k, rfl, hk, hm⟩
    have hbk := hb k hk
    constructor
    · intro c1
      refine And.intro (by omega) ?_
      refine And.intro (by have := hs k (by omega); omega) ?_
      refine And.intro (by omega) ?_
      exact ⟨6 - (k + 1), by omega, rfl, rfl, rfl, k + 1, rfl, by omega, rfl⟩
    · intro c1
      have hk6 : k = 6 := by omega
      subst hk6
      exact hq
def zno (o : Int) : Int := if 0 ≤ o ∧ o < 100 then o else 0
theorem zno_r (o : Int) : 0 ≤ zno o ∧ zno o ≤ 99 := by
  unfold zno
  split <;> omega
set_option maxHeartbeats 4000000 in
set_option maxRecDepth 100000 in
/-- C.numbersSum -/
theorem s_33 {h : zM} {Q : zQ} (hk : zWk h 12) (hq : Q (some (.inl (zit (fun i s => s + (zno (h 19 ((i : Int) * 5 + 2)) + zno (h 19 ((i : Int) * 5 + 4)))) (h 12 8).toNat 0))) h) : zR 33 [.inr (.inr 0)] h Q := by
  obtain ⟨n, hn⟩ : ∃ n : Nat, (n : Int) = h 12 8 := ⟨(h 12 8).toNat, Int.toNat_of_nonneg hk.2.1⟩
  have hn24 : n ≤ 24 := by have := hk.2.2; simp [zWs] at this; omega
  have hb := zsum_b (g := fun i => zno (h 19 (i * 5 + 2)) + zno (h 19 (i * 5 + 4))) (n := 24) (c := 198) (fun v _ => by have a := zno_r (h 19 ((v : Int) * 5 + 2)); have b := zno_r (h 19 ((v : Int) * 5 + 4)); show 0 ≤ zno _ + zno _ ∧ zno _ + zno _ ≤ 198; omega)
  rw [← hn, Int.toNat_natCast] at hq
  refine zx_met zk_33 (Or.inr ⟨_, _, rfl, rfl⟩) (Nat.le_of_ble_eq_true rfl) (fun _ => false) 1000 (fun m i L S h2 => i = 4 ∧ S = [] ∧ h2 = h ∧ ∃ k : Nat, L = [some (.inr (.inr 0)), some (.inl (zit (fun i s => s + (zno (h 19 ((i : Int) * 5 + 2)) + zno (h 19 ((i : Int) * 5 + 4)))) k 0)), some (.inl (k : Int))] ∧ k ≤ n ∧ m = n - k) (fun hok hM => ?_) (fun hok hM => ?_)
  · exact ⟨n, rfl, rfl, rfl, 0, rfl, by omega, rfl⟩
  · rintro m i L S h2 hM2 ⟨rfl, rfl, rfl, k, rfl, hkn, hm⟩
    have hbk := hb k (by omega)
    have hbk : 0 ≤ (zit (fun i s => s + (zno (h2 19 ((i : Int) * 5 + 2)) + zno (h2 19 ((i : Int) * 5 + 4)))) k 0) ∧ (zit (fun i s => s + (zno (h2 19 ((i : Int) * 5 + 2)) + zno (h2 19 ((i : Int) * 5 + 4)))) k 0) ≤ 198 * (k : Int) := hbk
    have r2 := zno_r (h2 19 ((k : Int) * 5 + 2))
    have r4 := zno_r (h2 19 ((k : Int) * 5 + 4))
    generalize hz : (zit (fun i s => s + (zno (h2 19 ((i : Int) * 5 + 2)) + zno (h2 19 ((i : Int) * 5 + 4)))) k 0) = z at *
    constructor
    · intro c1
      refine s_199 (by unfold zWb; omega) hk (fun cv => ?_) (fun cv => absurd (by omega) cv)
      refine s_34 ?_
      refine And.intro (by show _ ≤ z + zno (h2 19 ((k : Int) * 5 + 2)) ∧ z + zno (h2 19 ((k : Int) * 5 + 2)) < _; omega) ?_
      refine s_199 (by unfold zWb; omega) hk (fun cv => ?_) (fun cv => absurd (by omega) cv)
      refine s_34 ?_
      refine And.intro (by show _ ≤ z + zno (h2 19 ((k : Int) * 5 + 2)) + zno (h2 19 ((k : Int) * 5 + 4)) ∧ z + zno (h2 19 ((k : Int) * 5 + 2)) + zno (h2 19 ((k : Int) * 5 + 4)) < _; omega) ?_
      refine And.intro (by omega) ?_
      refine ⟨n - (k + 1), by omega, rfl, rfl, rfl, k + 1, ?_, by omega, rfl⟩
      have e : (zit (fun i s => s + (zno (h2 19 ((i : Int) * 5 + 2)) + zno (h2 19 ((i : Int) * 5 + 4)))) (k + 1) 0) = z + zno (h2 19 ((k : Int) * 5 + 2)) + zno (h2 19 ((k : Int) * 5 + 4)) := by
        rw [zit, hz]
        omega
      rw [e]
      rfl
    · intro c1
      have hk6 : k = n := by omega
      subst hk6
      rw [hz] at hq
      exact hq
end
section
/-! CONTRACTS: count, read: class and reference -/
set_option maxHeartbeats 4000000 in
set_option maxRecDepth 100000 in
/-- C.count -/
theorem s_27 {w : Int} {h : zM} {Q : zQ} (hk : zWk h 12) (hs : ∀ v : Nat, v < 6 → 0 ≤ h 70 v ∧ h 70 v ≤ 99) (q0 : w = 0 → Q (some (.inl ((if h 51 0 = 0 then 0 else 1) + (if h 51 1 = 0 then 0 else 1)))) h) (q1 : w = 1 → Q (some (.inl (h 2 1))) h) (q2 : w = 2 → Q (some (.inl (if h 73 1 = -4 then -4 else h 73 2))) h) (q3 : w = 3 → Q (some (.inl (zit (fun v s => s + h 70 v) 6 0))) h) (q4 : w = 4 → Q (some (.inl (zit (fun i s => s + (zno (h 19 ((i : Int) * 5 + 2)) + zno (h 19 ((i : Int) * 5 + 4)))) (h 12 8).toNat 0))) h) (qb : ¬ (0 ≤ w ∧ w ≤ 4) → Q (some (.inl (-1))) h) : zR 27 [.inr (.inr 0), .inl w] h Q := by
  have l51 : zx_ln 51 = (2 : Int) := rfl
  have l72 : zx_ln 72 = (4 : Int) := rfl
  refine zx_met0 zk_27 (Or.inr ⟨_, _, rfl, rfl⟩) (Nat.le_of_ble_eq_true rfl) 1000 (fun hok hM => ?_)
  constructor
  · intro c1
    refine And.intro (by omega) ?_
    constructor
    · intro c2
      refine And.intro (by omega) ?_
      constructor
      · intro c3
        refine And.intro (by omega) ?_
        have hq := q0 (by omega)
        first
        | (rw [if_pos (by assumption), if_pos (by assumption)] at hq; exact hq)
        | (rw [if_pos (by assumption), if_neg (by assumption)] at hq; exact hq)
        | (rw [if_neg (by assumption), if_pos (by assumption)] at hq; exact hq)
        | (rw [if_neg (by assumption), if_neg (by assumption)] at hq; exact hq)
      · intro c3
        refine And.intro (by omega) ?_
        have hq := q0 (by omega)
        first
        | (rw [if_pos (by assumption), if_pos (by assumption)] at hq; exact hq)
        | (rw [if_pos (by assumption), if_neg (by assumption)] at hq; exact hq)
        | (rw [if_neg (by assumption), if_pos (by assumption)] at hq; exact hq)
        | (rw [if_neg (by assumption), if_neg (by assumption)] at hq; exact hq)
    · intro c2
      refine And.intro (by omega) ?_
      constructor
      · intro c4
        refine And.intro (by omega) ?_
        have hq := q0 (by omega)
        first
        | (rw [if_pos (by assumption), if_pos (by assumption)] at hq; exact hq)
        | (rw [if_pos (by assumption), if_neg (by assumption)] at hq; exact hq)
        | (rw [if_neg (by assumption), if_pos (by assumption)] at hq; exact hq)
        | (rw [if_neg (by assumption), if_neg (by assumption)] at hq; exact hq)
      · intro c4
        refine And.intro (by omega) ?_
        have hq := q0 (by omega)
        first
        | (rw [if_pos (by assumption), if_pos (by assumption)] at hq; exact hq)
        | (rw [if_pos (by assumption), if_neg (by assumption)] at hq; exact hq)
        | (rw [if_neg (by assumption), if_pos (by assumption)] at hq; exact hq)
        | (rw [if_neg (by assumption), if_neg (by assumption)] at hq; exact hq)
  · intro c1
    constructor
    · intro c5
      exact q1 (by omega)
    · intro c5
      constructor
      · intro c6
        refine And.intro (by omega) ?_
        constructor
        · intro c7
          have hq := q2 (by omega)
          first
          | (rw [if_pos (by assumption)] at hq; exact hq)
          | (rw [if_neg (by assumption)] at hq; exact hq)
        · intro c7
          refine And.intro (by omega) ?_
          have hq := q2 (by omega)
          first
          | (rw [if_pos (by assumption)] at hq; exact hq)
          | (rw [if_neg (by assumption)] at hq; exact hq)
      · intro c6
        constructor
        · intro c8
          refine s_32 hs ?_
          exact q3 (by omega)
        · intro c8
          constructor
          · intro c9
            refine s_33 hk ?_
            exact q4 (by omega)
          · intro c9
            exact qb (by omega)
set_option maxHeartbeats 4000000 in
set_option maxRecDepth 100000 in
/-- M.count -/
theorem s_132 {w : Int} {h : zM} {Q : zQ} (hk : 0 ≤ h 82 176 ∧ h 82 176 ≤ 24) (hs : ∀ v : Nat, v < 6 → 0 ≤ h 98 v ∧ h 98 v ≤ 99) (q0 : w = 0 → Q (some (.inl ((if h 103 0 = 0 then 0 else 1) + (if h 103 1 = 0 then 0 else 1)))) h) (q1 : w = 1 → Q (some (.inl (h 81 2))) h) (q2 : w = 2 → Q (some (.inl (if h 104 0 = -4 then -4 else h 105 0))) h) (q3 : w = 3 → Q (some (.inl (zit (fun v s => s + h 98 v) 6 0))) h) (q4 : w = 4 → Q (some (.inl (zit (fun i s => s + (zno (h 82 (48 + (i : Int))) + zno (h 82 (96 + (i : Int))))) (h 82 176).toNat 0))) h) (qb : ¬ (0 ≤ w ∧ w ≤ 4) → Q (some (.inl (-1))) h) : zR 132 [.inr (.inr 81), .inl w] h Q := by
  have l82 : zx_ln 82 = (708 : Int) := rfl
  have l98 : zx_ln 98 = (6 : Int) := rfl
  have l103 : zx_ln 103 = (2 : Int) := rfl
  have l104 : zx_ln 104 = (4 : Int) := rfl
  have l105 : zx_ln 105 = (4 : Int) := rfl
  obtain ⟨N, hn⟩ : ∃ N : Nat, (N : Int) = h 82 176 := ⟨(h 82 176).toNat, Int.toNat_of_nonneg hk.1⟩
  have hb6 := zsum_b hs
  have hb := zsum_b (g := fun i => zno (h 82 (48 + i)) + zno (h 82 (96 + i))) (n := 24) (c := 198) (fun v _ => by have a := zno_r (h 82 (48 + (v : Int))); have b := zno_r (h 82 (96 + (v : Int))); show 0 ≤ zno _ + zno _ ∧ zno _ + zno _ ≤ 198; omega)
  rw [← hn, Int.toNat_natCast] at q4
  refine zx_met zk_132 (Or.inr ⟨_, _, rfl, rfl⟩) (Nat.le_of_ble_eq_true rfl) (fun _ => false) 1000 (fun m i L S h2 => (i = 6 ∧ S = [] ∧ h2 = h ∧ ∃ k : Nat, L = [some (.inr (.inr 81)), some (.inl w), some (.inl (zit (fun v s => s + h 98 v) k 0)), some (.inl 0), some (.inl (k : Int))] ∧ k ≤ 6 ∧ m = 6 - k + 100) ∨ (i = 20 ∧ S = [] ∧ h2 = h ∧ ∃ k : Nat, L = [some (.inr (.inr 81)), some (.inl w), some (.inl (zit (fun v s => s + h 98 v) 6 0)), some (.inl (zit (fun i s => s + (zno (h 82 (48 + (i : Int))) + zno (h 82 (96 + (i : Int))))) k 0)), some (.inl (k : Int))] ∧ k ≤ N ∧ m = N - k)) (fun hok hM => ?_) (fun hok hM => ?_)
  · exact ⟨106, Or.inl ⟨rfl, rfl, rfl, 0, rfl, by omega, rfl⟩⟩
  · rintro n i L S h2 hM2 (hI | hI)
    · obtain ⟨rfl, rfl, rfl, k, rfl, hkn, hm⟩ := hI
      have hbk := hb6 k hkn
      constructor
      · intro c1
        refine And.intro (by omega) ?_
        refine And.intro (by have := hs k (by omega); omega) ?_
        refine And.intro (by omega) ?_
        exact ⟨6 - (k + 1) + 100, by omega, Or.inl ⟨rfl, rfl, rfl, k + 1, rfl, by omega, rfl⟩⟩
      · intro c1
        first
        | (have hk6 : k = 6 := by omega
           subst hk6
           exact ⟨N, by omega, Or.inr ⟨rfl, rfl, rfl, 0, rfl, by omega, rfl⟩⟩)
        | (refine ⟨N - (k + 1), by omega, Or.inr ⟨rfl, rfl, rfl, k + 1, ?_, by omega, rfl⟩⟩
           have e : (zit (fun i s => s + (zno (h2 82 (48 + (i : Int))) + zno (h2 82 (96 + (i : Int))))) (k + 1) 0) = z + (zno (h2 82 (48 + (k : Int))) + zno (h2 82 (96 + (k : Int)))) := by rw [zit, hz]
           rw [e]
           rfl)
    · obtain ⟨rfl, rfl, rfl, k, rfl, hkn, hm⟩ := hI
      have hbk : 0 ≤ (zit (fun i s => s + (zno (h2 82 (48 + (i : Int))) + zno (h2 82 (96 + (i : Int))))) k 0) ∧ (zit (fun i s => s + (zno (h2 82 (48 + (i : Int))) + zno (h2 82 (96 + (i : Int))))) k 0) ≤ 198 * (k : Int) := hb k (by omega)
      have r2 := zno_r (h2 82 (48 + (k : Int)))
      have r4 := zno_r (h2 82 (96 + (k : Int)))
      generalize hz : (zit (fun i s => s + (zno (h2 82 (48 + (i : Int))) + zno (h2 82 (96 + (i : Int))))) k 0) = z at *
      refine And.intro (by omega) ?_
      constructor
      · intro c2
        refine And.intro (by omega) ?_
        refine And.intro (by omega) ?_
        refine s_131 ?_
        refine And.intro (by omega) ?_
        refine And.intro (by omega) ?_
        refine s_131 ?_
        refine And.intro (by show _ ≤ zno (h2 82 (48 + (k : Int))) + zno (h2 82 (96 + (k : Int))) ∧ zno (h2 82 (48 + (k : Int))) + zno (h2 82 (96 + (k : Int))) < _; omega) ?_
        refine And.intro (by show _ ≤ z + (zno (h2 82 (48 + (k : Int))) + zno (h2 82 (96 + (k : Int)))) ∧ z + (zno (h2 82 (48 + (k : Int))) + zno (h2 82 (96 + (k : Int)))) < _; omega) ?_
        refine And.intro (by omega) ?_
        first
        | (have hk6 : k = 6 := by omega
           subst hk6
           exact ⟨N, by omega, Or.inr ⟨rfl, rfl, rfl, 0, rfl, by omega, rfl⟩⟩)
        | (refine ⟨N - (k + 1), by omega, Or.inr ⟨rfl, rfl, rfl, k + 1, ?_, by omega, rfl⟩⟩
           have e : (zit (fun i s => s + (zno (h2 82 (48 + (i : Int))) + zno (h2 82 (96 + (i : Int))))) (k + 1) 0) = z + (zno (h2 82 (48 + (k : Int))) + zno (h2 82 (96 + (k : Int)))) := by rw [zit, hz]
           rw [e]
           rfl)
      · intro c2
        constructor
        · intro c3
          refine And.intro (by omega) ?_
          constructor
          · intro c4
            refine And.intro (by omega) ?_
            constructor
            · intro c5
              refine And.intro (by omega) ?_
              have hq := q0 (by omega)
              first
              | (rw [if_pos (by assumption), if_pos (by assumption)] at hq; exact hq)
              | (rw [if_pos (by assumption), if_neg (by assumption)] at hq; exact hq)
              | (rw [if_neg (by assumption), if_pos (by assumption)] at hq; exact hq)
              | (rw [if_neg (by assumption), if_neg (by assumption)] at hq; exact hq)
            · intro c5
              refine And.intro (by omega) ?_
              have hq := q0 (by omega)
              first
              | (rw [if_pos (by assumption), if_pos (by assumption)] at hq; exact hq)
              | (rw [if_pos (by assumption), if_neg (by assumption)] at hq; exact hq)
              | (rw [if_neg (by assumption), if_pos (by assumption)] at hq; exact hq)
              | (rw [if_neg (by assumption), if_neg (by assumption)] at hq; exact hq)
          · intro c4
            refine And.intro (by omega) ?_
            constructor
            · intro c6
              refine And.intro (by omega) ?_
              have hq := q0 (by omega)
              first
              | (rw [if_pos (by assumption), if_pos (by assumption)] at hq; exact hq)
              | (rw [if_pos (by assumption), if_neg (by assumption)] at hq; exact hq)
              | (rw [if_neg (by assumption), if_pos (by assumption)] at hq; exact hq)
              | (rw [if_neg (by assumption), if_neg (by assumption)] at hq; exact hq)
            · intro c6
              refine And.intro (by omega) ?_
              have hq := q0 (by omega)
              first
              | (rw [if_pos (by assumption), if_pos (by assumption)] at hq; exact hq)
              | (rw [if_pos (by assumption), if_neg (by assumption)] at hq; exact hq)
              | (rw [if_neg (by assumption), if_pos (by assumption)] at hq; exact hq)
              | (rw [if_neg (by assumption), if_neg (by assumption)] at hq; exact hq)
        · intro c3
          constructor
          · intro c7
            exact q1 (by omega)
          · intro c7
            constructor
            · intro c8
              refine And.intro (by omega) ?_
              constructor
              · intro c9
                have hq := q2 (by omega)
                first
                | (rw [if_pos (by assumption)] at hq; exact hq)
                | (rw [if_neg (by assumption)] at hq; exact hq)
              · intro c9
                refine And.intro (by omega) ?_
                have hq := q2 (by omega)
                first
                | (rw [if_pos (by assumption)] at hq; exact hq)
                | (rw [if_neg (by assumption)] at hq; exact hq)
            · intro c8
              constructor
              · intro c10
                exact q3 (by omega)
              · intro c10
                constructor
                · intro c11
                  have hk6 : k = N := by omega
                  subst hk6
                  rw [hz] at q4
                  exact q4 (by omega)
                · intro c11
                  exact qb (by omega)
set_option maxHeartbeats 4000000 in
set_option maxRecDepth 100000 in
/-- Sheet.faultOfPair -/
theorem s_186w {b : Nat} (hb : zSh b) {l i : Int} {h : zM} {Q : zQ} (hl : h b 2 ≤ 40) (h3 : ¬ h b 1 = -4 → ¬ h b 1 = l → Q (some (.inl 3)) h) (h1 : h b 1 = -4 → Q (some (.inl 1)) h) (h2 : h b 1 = l → ¬ h b 1 = -4 → ¬ (0 ≤ i ∧ i + 1 < h b 2) → Q (some (.inl 2)) h) (h0 : h b 1 = l → ¬ h b 1 = -4 → 0 ≤ i ∧ i + 1 < h b 2 → Q (some (.inl 0)) h) : zR 186 [.inr (.inr b), .inl l, .inl i] h Q := by
  have l74 : zx_ln 74 = (40 : Int) := rfl
  have l76 : zx_ln 76 = (40 : Int) := rfl
  have l78 : zx_ln 78 = (40 : Int) := rfl
  have l80 : zx_ln 80 = (40 : Int) := rfl
  rcases hb with rfl | rfl | rfl | rfl
  all_goals
    refine zx_met0 zk_186 (Or.inr ⟨_, _, rfl, rfl⟩) (Nat.le_of_ble_eq_true rfl) 1000 (fun hok hM => ?_)
    constructor
    · intro c1
      refine s_185 (by first | assumption | (unfold zSh; omega)) (fun d1 => ?_) (fun d1 d2 => ?_) (fun d1 d2 => ?_)
      · refine And.intro (fun c => absurd c (by decide)) (fun _ => ?_)
        first | exact h1 (by omega) | exact h3 (by omega) (by omega) | exact h2 (by omega) (by omega) (by omega) | exact h0 (by omega) (by omega) (by omega) | (exfalso; omega)
      · refine And.intro (fun c => absurd c (by decide)) (fun _ => ?_)
        first | exact h1 (by omega) | exact h3 (by omega) (by omega) | exact h2 (by omega) (by omega) (by omega) | exact h0 (by omega) (by omega) (by omega) | (exfalso; omega)
      · refine And.intro (fun _ => ?_) (fun c => absurd (by decide) c)
        refine And.intro (by omega) ?_
        refine s_185 (by first | assumption | (unfold zSh; omega)) (fun d1 => ?_) (fun d1 d2 => ?_) (fun d1 d2 => ?_)
        · first | exact h1 (by omega) | exact h3 (by omega) (by omega) | exact h2 (by omega) (by omega) (by omega) | exact h0 (by omega) (by omega) (by omega) | (exfalso; omega)
        · first | exact h1 (by omega) | exact h3 (by omega) (by omega) | exact h2 (by omega) (by omega) (by omega) | exact h0 (by omega) (by omega) (by omega) | (exfalso; omega)
        · first | exact h1 (by omega) | exact h3 (by omega) (by omega) | exact h2 (by omega) (by omega) (by omega) | exact h0 (by omega) (by omega) (by omega) | (exfalso; omega)
    · intro c1
      constructor
      · intro c2
        refine s_185 (by first | assumption | (unfold zSh; omega)) (fun d1 => ?_) (fun d1 d2 => ?_) (fun d1 d2 => ?_)
        · refine And.intro (fun c => absurd c (by decide)) (fun _ => ?_)
          first | exact h1 (by omega) | exact h3 (by omega) (by omega) | exact h2 (by omega) (by omega) (by omega) | exact h0 (by omega) (by omega) (by omega) | (exfalso; omega)
        · refine And.intro (fun c => absurd c (by decide)) (fun _ => ?_)
          first | exact h1 (by omega) | exact h3 (by omega) (by omega) | exact h2 (by omega) (by omega) (by omega) | exact h0 (by omega) (by omega) (by omega) | (exfalso; omega)
        · refine And.intro (fun _ => ?_) (fun c => absurd (by decide) c)
          refine And.intro (by omega) ?_
          refine s_185 (by first | assumption | (unfold zSh; omega)) (fun d1 => ?_) (fun d1 d2 => ?_) (fun d1 d2 => ?_)
          · first | exact h1 (by omega) | exact h3 (by omega) (by omega) | exact h2 (by omega) (by omega) (by omega) | exact h0 (by omega) (by omega) (by omega) | (exfalso; omega)
          · first | exact h1 (by omega) | exact h3 (by omega) (by omega) | exact h2 (by omega) (by omega) (by omega) | exact h0 (by omega) (by omega) (by omega) | (exfalso; omega)
          · first | exact h1 (by omega) | exact h3 (by omega) (by omega) | exact h2 (by omega) (by omega) (by omega) | exact h0 (by omega) (by omega) (by omega) | (exfalso; omega)
      · intro c2
        first | exact h1 (by omega) | exact h3 (by omega) (by omega) | exact h2 (by omega) (by omega) (by omega) | exact h0 (by omega) (by omega) (by omega) | (exfalso; omega)
end
section
/-! CONTRACTS: read: class and reference -/
/-- the FAULT of pair j -/
def zrdf (ln len l f : Int) (j : Nat) : Int := if ln = -4 then 1 else if ln = l then (if 0 ≤ f + 2 * (j : Int) ∧ f + 2 * (j : Int) + 1 < len then 0 else 2) else 3
/-- pair j is one that begin takes -/
def zrdac (cl : Int → Int) (f : Int) (j : Nat) : Prop := (0 ≤ cl (f + 2 * (j : Int)) ∧ cl (f + 2 * (j : Int)) < 6) ∧ 0 ≤ cl (f + 2 * (j : Int) + 1) ∧ cl (f + 2 * (j : Int) + 1) ≤ 99
/-- the begins behind k pairs -/
def zrdp (cl : Int → Int) (f : Int) (s : Int → Int) (k : Nat) : Int → Int := zit (fun j s => fun v => if v = cl (f + 2 * (j : Int)) then cl (f + 2 * (j : Int) + 1) else s v) k s
theorem zrdf0 {ln len l f : Int} {j : Nat} (h : zrdf ln len l f j = 0) : ¬ ln = -4 ∧ ln = l ∧ 0 ≤ f + 2 * (j : Int) ∧ f + 2 * (j : Int) + 1 < len := by
  unfold zrdf at h
  split at h
  · omega
  · split at h
    · split at h
      · exact ⟨by assumption, by assumption, by omega, by omega⟩
      · omega
    · omega
theorem zrdf_1 {ln len l f : Int} {j : Nat} (a : ln = -4) : zrdf ln len l f j = 1 := if_pos a
theorem zrdf_3 {ln len l f : Int} {j : Nat} (a : ¬ ln = -4) (b : ¬ ln = l) : zrdf ln len l f j = 3 := by
  unfold zrdf
  rw [if_neg a, if_neg b]
theorem zrdf_2 {ln len l f : Int} {j : Nat} (b : ln = l) (a : ¬ ln = -4) (c : ¬ (0 ≤ f + 2 * (j : Int) ∧ f + 2 * (j : Int) + 1 < len)) : zrdf ln len l f j = 2 := by
  unfold zrdf
  rw [if_neg a, if_pos b, if_neg c]
theorem zrdf_0 {ln len l f : Int} {j : Nat} (b : ln = l) (a : ¬ ln = -4) (c : 0 ≤ f + 2 * (j : Int) ∧ f + 2 * (j : Int) + 1 < len) : zrdf ln len l f j = 0 := by
  unfold zrdf
  rw [if_neg a, if_pos b, if_pos c]
theorem zrdp_s {cl : Int → Int} {f : Int} {s : Int → Int} {k : Nat} {v : Int} : zrdp cl f s (k + 1) v = if v = cl (f + 2 * (k : Int)) then cl (f + 2 * (k : Int) + 1) else zrdp cl f s k v := rfl
theorem zrd_rng {ln len l f : Int} (hf : zc_i f) (hlen : len ≤ 40) {m : Nat} (hm : m ≤ 20) (hj : ∀ j : Nat, j < m → zrdf ln len l f j = 0) : zc_i (f + 2 * (m : Int)) := by
  unfold zc_i at *
  cases m with
  | zero => omega
  | succ m =>
    have := (zrdf0 (hj m (by omega))).2.2
    omega
set_option maxHeartbeats 4000000 in
set_option maxRecDepth 100000 in
/-- C.read -/
theorem s_25 {k l f n : Int} (hk : 0 ≤ k ∧ k < 4) {h : zM} {Q : zQ} (hlen : h (zsb k) 2 ≤ 40) (hb : ¬ ((0 ≤ l ∧ l < 3) ∧ 0 ≤ n ∧ n ≤ 20) → Q (some (.inl (-1))) h) (hq : (0 ≤ l ∧ l < 3) ∧ 0 ≤ n ∧ n ≤ 20 → ∀ (m : Nat) (e : Int) h2, (m : Int) ≤ n → (∀ j : Nat, j < m → zrdf (h (zsb k) 1) (h (zsb k) 2) l f j = 0 ∧ zrdac (h (zsb k + 1)) f j) → ((m : Int) = n ∧ e = 0 ∨ (m : Int) < n ∧ e = zrdf (h (zsb k) 1) (h (zsb k) 2) l f m ∧ ¬ e = 0) → zF (fun r i => Nat.beq r 70 || Nat.beq r 71 || (Nat.beq r 0 && decide (i = 13))) h h2 → h2 0 13 = e → (∀ v, 0 ≤ v → v < 6 → h2 70 v = zrdp (h (zsb k + 1)) f (h 70) m v) → Q (some (.inl m)) h2) (hr : (0 ≤ l ∧ l < 3) ∧ 0 ≤ n ∧ n ≤ 20 → ∀ (m : Nat) h2, (m : Int) < n → (∀ j : Nat, j < m → zrdf (h (zsb k) 1) (h (zsb k) 2) l f j = 0 ∧ zrdac (h (zsb k + 1)) f j) → zrdf (h (zsb k) 1) (h (zsb k) 2) l f m = 0 → ¬ zrdac (h (zsb k + 1)) f m → zF (fun r _ => Nat.beq r 71) h h2 → Q (some (.inl (-20 - (m : Int)))) h2) : zR 25 [.inr (.inr 0), .inl k, .inl l, .inl f, .inl n] h Q := by
  have l70 : zx_ln 70 = (6 : Int) := rfl
  have l71 : zx_ln 71 = (6 : Int) := rfl
  have l72 : zx_ln 72 = (4 : Int) := rfl
  obtain ⟨K, hK⟩ : ∃ K, K = k := ⟨_, rfl⟩
  rcases (show k = 0 ∨ k = 1 ∨ k = 2 ∨ k = 3 by omega) with rfl | rfl | rfl | rfl
  all_goals
    refine zx_met zk_25 (Or.inr ⟨_, _, rfl, rfl⟩) (Nat.le_of_ble_eq_true rfl) (fun _ => false) 1000 (fun q i L S h2 => i = 32 ∧ S = [] ∧ ((0 ≤ l ∧ l < 3) ∧ 0 ≤ n ∧ n ≤ 20) ∧ ∃ (m : Nat) (fd ix : Int) (a c : Option zV), L = [some (.inr (.inr 0)), some (.inl K), some (.inl l), some (.inl f), some (.inl n), some (.inr (.inr (zsb K))), some (.inl fd), some (.inl (m : Int)), some (.inl ix), a, c] ∧ (m : Int) ≤ n ∧ q = (n - ix).toNat ∧ (∀ j : Nat, j < m → zrdf (h (zsb K) 1) (h (zsb K) 2) l f j = 0 ∧ zrdac (h (zsb K + 1)) f j) ∧ zF (fun r _ => Nat.beq r 71) h h2 ∧ (∀ v, 0 ≤ v → v < 6 → h2 71 v = zrdp (h (zsb K + 1)) f (h 70) m v) ∧ ((fd = 0 ∧ ix = m) ∨ (¬ fd = 0 ∧ fd = zrdf (h (zsb K) 1) (h (zsb K) 2) l f m ∧ ix = m + 1 ∧ (m : Int) < n))) (fun hok hM => ?_) (fun hok hM => ?_)
    · refine s_40 (fun cv => ?_) (fun cv => absurd (by omega) cv)
      refine And.intro (fun c => absurd c (by decide)) (fun _ => ?_)
      refine s_41 (fun cl => ?_) (fun cl => ?_)
      · refine And.intro (fun c => absurd c (by decide)) (fun _ => ?_)
        constructor
        · intro c1
          exact hb (by omega)
        · intro c1
          constructor
          · intro c2
            exact hb (by omega)
          · intro c2
            refine And.intro (by omega) ?_
            refine And.intro (⟨rfl, rfl, by decide, by decide, by decide +kernel, by decide +kernel, by decide +kernel⟩) ?_
            subst hK
            refine ⟨(n - 0).toNat, rfl, rfl, by omega, 0, 0, 0, none, none, rfl, by omega, rfl, fun j hj => by omega, zF.rf.cp fun _ => rfl, fun v a b => ?_, Or.inl ⟨rfl, rfl⟩⟩
            simp [zx_cp, a, b, zrdp, zit]
      · refine And.intro (fun _ => ?_) (fun c => absurd (by decide) c)
        exact hb (by omega)
    · have eK : ∀ (h2 : zM), zF (fun r _ => Nat.beq r 71) h h2 → ∀ i, h2 (zsb K) i = h (zsb K) i ∧ h2 (zsb K + 1) i = h (zsb K + 1) i := by
        subst hK
        exact fun h2 hF i => ⟨hF _ i rfl, hF _ i rfl⟩
      subst hK
      rintro q i L S h2 hM2 ⟨rfl, rfl, hc, m, fd, ix, a, c, rfl, hm, hq0, hj, hF, hd, hcase⟩
      have hfi : zc_i f := hok (.inl f) (by simp)
      have hfm := zrd_rng hfi hlen (by omega) (fun j a => (hj j a).1)
      unfold zc_i at hfm hfi
      have eN := (eK h2 hF 1).1
      have eL := (eK h2 hF 2).1
      have eC := fun i => (eK h2 hF i).2
      constructor
      · intro c3
        constructor
        · intro c4
          have hix : ix = (m : Int) := by omega
          subst hix
          refine And.intro (by omega) ?_
          refine And.intro (by omega) ?_
          refine s_186w (by first | exact Or.inl rfl | exact Or.inr (Or.inl rfl) | exact Or.inr (Or.inr (Or.inl rfl)) | exact Or.inr (Or.inr (Or.inr rfl))) (by rw [eL]; exact hlen) (fun d1 d2 => ?_) (fun d1 => ?_) (fun d1 d2 d3 => ?_) (fun d1 d2 d3 => ?_)
          · refine And.intro (fun c => absurd c (by decide)) (fun _ => ?_)
            refine And.intro (by omega) ?_
            first
            | exact ⟨(n - ((m : Int) + 1)).toNat, by omega, rfl, rfl, hc, m, 1, (m : Int) + 1, _, _, rfl, hm, rfl, hj, hF, hd, Or.inr ⟨by decide, (zrdf_1 (eN.symm.trans d1)).symm, rfl, by omega⟩⟩
            | exact ⟨(n - ((m : Int) + 1)).toNat, by omega, rfl, rfl, hc, m, 3, (m : Int) + 1, _, _, rfl, hm, rfl, hj, hF, hd, Or.inr ⟨by decide, (zrdf_3 (fun z => d1 (eN.trans z)) (fun z => d2 (eN.trans z))).symm, rfl, by omega⟩⟩
            | exact ⟨(n - ((m : Int) + 1)).toNat, by omega, rfl, rfl, hc, m, 2, (m : Int) + 1, _, _, rfl, hm, rfl, hj, hF, hd, Or.inr ⟨by decide, (zrdf_2 (eN.symm.trans d1) (fun z => d2 (eN.trans z)) (fun z => d3 (by rw [eL]; exact z))).symm, rfl, by omega⟩⟩
            | (have ok0 := zrdf_0 (f := f) (j := m) (eN.symm.trans d1) (fun z => d2 (eN.trans z)) (by rw [eL] at d3; exact d3)
               rw [eC, eC] at cv
               refine ⟨(n - ((m : Int) + 1)).toNat, by omega, rfl, rfl, hc, m + 1, 0, (m : Int) + 1, _, _, rfl, by omega, rfl, fun j hjm => ?_, hF.st rfl, fun v a b => ?_, Or.inl ⟨rfl, rfl⟩⟩
               · by_cases hj2 : j < m
                 · exact hj j hj2
                 · have : j = m := by omega
                   subst this
                   exact ⟨ok0, cv⟩
               · rw [zrdp_s, ← eC, ← eC]
                 split
                 · next hv => rw [hv]; exact zst_eq _ _ _ _
                 · next hv => exact (zst_ne hv).trans (hd v a b))
          · refine And.intro (fun c => absurd c (by decide)) (fun _ => ?_)
            refine And.intro (by omega) ?_
            first
            | exact ⟨(n - ((m : Int) + 1)).toNat, by omega, rfl, rfl, hc, m, 1, (m : Int) + 1, _, _, rfl, hm, rfl, hj, hF, hd, Or.inr ⟨by decide, (zrdf_1 (eN.symm.trans d1)).symm, rfl, by omega⟩⟩
            | exact ⟨(n - ((m : Int) + 1)).toNat, by omega, rfl, rfl, hc, m, 3, (m : Int) + 1, _, _, rfl, hm, rfl, hj, hF, hd, Or.inr ⟨by decide, (zrdf_3 (fun z => d1 (eN.trans z)) (fun z => d2 (eN.trans z))).symm, rfl, by omega⟩⟩
            | exact ⟨(n - ((m : Int) + 1)).toNat, by omega, rfl, rfl, hc, m, 2, (m : Int) + 1, _, _, rfl, hm, rfl, hj, hF, hd, Or.inr ⟨by decide, (zrdf_2 (eN.symm.trans d1) (fun z => d2 (eN.trans z)) (fun z => d3 (by rw [eL]; exact z))).symm, rfl, by omega⟩⟩
            | (have ok0 := zrdf_0 (f := f) (j := m) (eN.symm.trans d1) (fun z => d2 (eN.trans z)) (by rw [eL] at d3; exact d3)
               rw [eC, eC] at cv
               refine ⟨(n - ((m : Int) + 1)).toNat, by omega, rfl, rfl, hc, m + 1, 0, (m : Int) + 1, _, _, rfl, by omega, rfl, fun j hjm => ?_, hF.st rfl, fun v a b => ?_, Or.inl ⟨rfl, rfl⟩⟩
               · by_cases hj2 : j < m
                 · exact hj j hj2
                 · have : j = m := by omega
                   subst this
                   exact ⟨ok0, cv⟩
               · rw [zrdp_s, ← eC, ← eC]
                 split
                 · next hv => rw [hv]; exact zst_eq _ _ _ _
                 · next hv => exact (zst_ne hv).trans (hd v a b))
          · refine And.intro (fun c => absurd c (by decide)) (fun _ => ?_)
            refine And.intro (by omega) ?_
            first
            | exact ⟨(n - ((m : Int) + 1)).toNat, by omega, rfl, rfl, hc, m, 1, (m : Int) + 1, _, _, rfl, hm, rfl, hj, hF, hd, Or.inr ⟨by decide, (zrdf_1 (eN.symm.trans d1)).symm, rfl, by omega⟩⟩
            | exact ⟨(n - ((m : Int) + 1)).toNat, by omega, rfl, rfl, hc, m, 3, (m : Int) + 1, _, _, rfl, hm, rfl, hj, hF, hd, Or.inr ⟨by decide, (zrdf_3 (fun z => d1 (eN.trans z)) (fun z => d2 (eN.trans z))).symm, rfl, by omega⟩⟩
            | exact ⟨(n - ((m : Int) + 1)).toNat, by omega, rfl, rfl, hc, m, 2, (m : Int) + 1, _, _, rfl, hm, rfl, hj, hF, hd, Or.inr ⟨by decide, (zrdf_2 (eN.symm.trans d1) (fun z => d2 (eN.trans z)) (fun z => d3 (by rw [eL]; exact z))).symm, rfl, by omega⟩⟩
            | (have ok0 := zrdf_0 (f := f) (j := m) (eN.symm.trans d1) (fun z => d2 (eN.trans z)) (by rw [eL] at d3; exact d3)
               rw [eC, eC] at cv
               refine ⟨(n - ((m : Int) + 1)).toNat, by omega, rfl, rfl, hc, m + 1, 0, (m : Int) + 1, _, _, rfl, by omega, rfl, fun j hjm => ?_, hF.st rfl, fun v a b => ?_, Or.inl ⟨rfl, rfl⟩⟩
               · by_cases hj2 : j < m
                 · exact hj j hj2
                 · have : j = m := by omega
                   subst this
                   exact ⟨ok0, cv⟩
               · rw [zrdp_s, ← eC, ← eC]
                 split
                 · next hv => rw [hv]; exact zst_eq _ _ _ _
                 · next hv => exact (zst_ne hv).trans (hd v a b))
          · refine And.intro (fun _ => ?_) (fun c => absurd (by decide) c)
            refine And.intro (by omega) ?_
            refine And.intro (by omega) ?_
            refine s_187 (by first | exact Or.inl rfl | exact Or.inr (Or.inl rfl) | exact Or.inr (Or.inr (Or.inl rfl)) | exact Or.inr (Or.inr (Or.inr rfl))) (by rw [eL]; exact hlen) (fun cw => ?_) (fun cw => absurd ⟨d2, by omega⟩ cw)
            refine And.intro (by omega) ?_
            refine And.intro (by omega) ?_
            refine And.intro (by omega) ?_
            refine s_187 (by first | exact Or.inl rfl | exact Or.inr (Or.inl rfl) | exact Or.inr (Or.inr (Or.inl rfl)) | exact Or.inr (Or.inr (Or.inr rfl))) (by rw [eL]; exact hlen) (fun cw => ?_) (fun cw => absurd ⟨d2, by omega⟩ cw)
            refine s_39 (fun cv => ?_) (fun cv => ?_)
            · refine And.intro (fun c => absurd c (by decide)) (fun _ => ?_)
              refine And.intro (by omega) ?_
              refine And.intro (by omega) ?_
              refine And.intro (by omega) ?_
              first
              | exact ⟨(n - ((m : Int) + 1)).toNat, by omega, rfl, rfl, hc, m, 1, (m : Int) + 1, _, _, rfl, hm, rfl, hj, hF, hd, Or.inr ⟨by decide, (zrdf_1 (eN.symm.trans d1)).symm, rfl, by omega⟩⟩
              | exact ⟨(n - ((m : Int) + 1)).toNat, by omega, rfl, rfl, hc, m, 3, (m : Int) + 1, _, _, rfl, hm, rfl, hj, hF, hd, Or.inr ⟨by decide, (zrdf_3 (fun z => d1 (eN.trans z)) (fun z => d2 (eN.trans z))).symm, rfl, by omega⟩⟩
              | exact ⟨(n - ((m : Int) + 1)).toNat, by omega, rfl, rfl, hc, m, 2, (m : Int) + 1, _, _, rfl, hm, rfl, hj, hF, hd, Or.inr ⟨by decide, (zrdf_2 (eN.symm.trans d1) (fun z => d2 (eN.trans z)) (fun z => d3 (by rw [eL]; exact z))).symm, rfl, by omega⟩⟩
              | (have ok0 := zrdf_0 (f := f) (j := m) (eN.symm.trans d1) (fun z => d2 (eN.trans z)) (by rw [eL] at d3; exact d3)
                 rw [eC, eC] at cv
                 refine ⟨(n - ((m : Int) + 1)).toNat, by omega, rfl, rfl, hc, m + 1, 0, (m : Int) + 1, _, _, rfl, by omega, rfl, fun j hjm => ?_, hF.st rfl, fun v a b => ?_, Or.inl ⟨rfl, rfl⟩⟩
                 · by_cases hj2 : j < m
                   · exact hj j hj2
                   · have : j = m := by omega
                     subst this
                     exact ⟨ok0, cv⟩
                 · rw [zrdp_s, ← eC, ← eC]
                   split
                   · next hv => rw [hv]; exact zst_eq _ _ _ _
                   · next hv => exact (zst_ne hv).trans (hd v a b))
            · refine And.intro (fun _ => ?_) (fun c => absurd (by decide) c)
              refine And.intro (by omega) ?_
              have ok0 := zrdf_0 (f := f) (j := m) (eN.symm.trans d1) (fun z => d2 (eN.trans z)) (by rw [eL] at d3; exact d3)
              rw [eC, eC] at cv
              exact hr hc m h2 (by omega) hj ok0 cv hF
        · intro c4
          refine And.intro (⟨rfl, rfl, by decide, by decide, by decide +kernel, by decide +kernel, by decide +kernel⟩) ?_
          refine hq hc m fd _ hm hj (by omega) (((hF.mono (fun r k hf => ?_)).cp fun _ => rfl).st rfl) rfl (fun v a b => ?_)
          · simp only [Bool.or_eq_false_iff] at hf ⊢
            exact hf.1.2
          · rw [zst_nr (by decide)]
            simp [zx_cp, a, b]
            exact hd v a b
      · intro c3
        refine And.intro (⟨rfl, rfl, by decide, by decide, by decide +kernel, by decide +kernel, by decide +kernel⟩) ?_
        refine hq hc m fd _ hm hj (by omega) (((hF.mono (fun r k hf => ?_)).cp fun _ => rfl).st rfl) rfl (fun v a b => ?_)
        · simp only [Bool.or_eq_false_iff] at hf ⊢
          exact hf.1.2
        · rw [zst_nr (by decide)]
          simp [zx_cp, a, b]
          exact hd v a b
end
