section
-- ===== PART A: goes FIRST, ahead of the names: the tables' words, and 'selects' of the private methods out of them =====
/-- a private method of a class that the tables say can be made, by its rows of tables_1 -/
def lw_okq (q : MethodName × Nat) : Prop := (q.1.cls ≠ "java/lang/invoke/MethodHandle" ∧ q.1.cls ≠ "java/lang/invoke/VarHandle") ∧ Cond.instantiable q.1.cls q.2 ∈ tables_1 ∧ Cond.privateMethod q.1 ∈ tables_1 ∧ Cond.instanceMethod q.1 ∈ tables_1
theorem lw_p0 : lw_okq (⟨"ScoreHandles$Rows", "added", "(II)I"⟩, 2) := ⟨⟨by decide +kernel, by decide +kernel⟩, List.mem_of_getElem? (i := 26) (by decide +kernel), List.mem_of_getElem? (i := 159) (by decide +kernel), List.mem_of_getElem? (i := 160) (by decide +kernel)⟩
theorem lw_p1 : lw_okq (⟨"ScoreHandles$Rows", "at", "(J)LScoreHandles$Row;"⟩, 2) := ⟨⟨by decide +kernel, by decide +kernel⟩, List.mem_of_getElem? (i := 26) (by decide +kernel), List.mem_of_getElem? (i := 187) (by decide +kernel), List.mem_of_getElem? (i := 188) (by decide +kernel)⟩
theorem lw_p2 : lw_okq (⟨"ScoreHandles$Row", "has", "(J)Z"⟩, 2) := ⟨⟨by decide +kernel, by decide +kernel⟩, List.mem_of_getElem? (i := 162) (by decide +kernel), List.mem_of_getElem? (i := 191) (by decide +kernel), List.mem_of_getElem? (i := 192) (by decide +kernel)⟩
theorem lw_p3 : lw_okq (⟨"ScoreHandles$Real", "plain", "(J)J"⟩, 7) := ⟨⟨by decide +kernel, by decide +kernel⟩, List.mem_of_getElem? (i := 202) (by decide +kernel), List.mem_of_getElem? (i := 200) (by decide +kernel), List.mem_of_getElem? (i := 201) (by decide +kernel)⟩
theorem lw_p4 : lw_okq (⟨"ScoreHandles$Real", "isNoNumber", "(J)Z"⟩, 7) := ⟨⟨by decide +kernel, by decide +kernel⟩, List.mem_of_getElem? (i := 202) (by decide +kernel), List.mem_of_getElem? (i := 205) (by decide +kernel), List.mem_of_getElem? (i := 206) (by decide +kernel)⟩
theorem lw_p5 : lw_okq (⟨"ScoreHandles$Real", "magnitude", "(J)J"⟩, 7) := ⟨⟨by decide +kernel, by decide +kernel⟩, List.mem_of_getElem? (i := 202) (by decide +kernel), List.mem_of_getElem? (i := 209) (by decide +kernel), List.mem_of_getElem? (i := 210) (by decide +kernel)⟩
theorem lw_p6 : lw_okq (⟨"ScoreHandles$Real", "infinity", "()J"⟩, 7) := ⟨⟨by decide +kernel, by decide +kernel⟩, List.mem_of_getElem? (i := 202) (by decide +kernel), List.mem_of_getElem? (i := 214) (by decide +kernel), List.mem_of_getElem? (i := 215) (by decide +kernel)⟩
theorem lw_p7 : lw_okq (⟨"ScoreHandles$Real", "noNumber", "()J"⟩, 7) := ⟨⟨by decide +kernel, by decide +kernel⟩, List.mem_of_getElem? (i := 202) (by decide +kernel), List.mem_of_getElem? (i := 218) (by decide +kernel), List.mem_of_getElem? (i := 219) (by decide +kernel)⟩
theorem lw_p8 : lw_okq (⟨"ScoreHandles$Row", "set", "(JJ)V"⟩, 2) := ⟨⟨by decide +kernel, by decide +kernel⟩, List.mem_of_getElem? (i := 162) (by decide +kernel), List.mem_of_getElem? (i := 224) (by decide +kernel), List.mem_of_getElem? (i := 225) (by decide +kernel)⟩
theorem lw_p9 : lw_okq (⟨"ScoreHandles$Row", "get", "(J)J"⟩, 2) := ⟨⟨by decide +kernel, by decide +kernel⟩, List.mem_of_getElem? (i := 162) (by decide +kernel), List.mem_of_getElem? (i := 233) (by decide +kernel), List.mem_of_getElem? (i := 234) (by decide +kernel)⟩
theorem lw_p10 : lw_okq (⟨"ScoreHandles$Row", "many", "()I"⟩, 2) := ⟨⟨by decide +kernel, by decide +kernel⟩, List.mem_of_getElem? (i := 162) (by decide +kernel), List.mem_of_getElem? (i := 241) (by decide +kernel), List.mem_of_getElem? (i := 242) (by decide +kernel)⟩
theorem lw_p11 : lw_okq (⟨"ScoreHandles$Maker", "isTold", "(LScoreHandles$Handle;)Z"⟩, 2) := ⟨⟨by decide +kernel, by decide +kernel⟩, List.mem_of_getElem? (i := 58) (by decide +kernel), List.mem_of_getElem? (i := 308) (by decide +kernel), List.mem_of_getElem? (i := 309) (by decide +kernel)⟩
theorem lw_p12 : lw_okq (⟨"ScoreHandles$Maker", "isFirstTold", "(LScoreHandles$Handle;)Z"⟩, 2) := ⟨⟨by decide +kernel, by decide +kernel⟩, List.mem_of_getElem? (i := 58) (by decide +kernel), List.mem_of_getElem? (i := 313) (by decide +kernel), List.mem_of_getElem? (i := 314) (by decide +kernel)⟩
theorem lw_p13 : lw_okq (⟨"ScoreHandles$Handles", "at", "(I)LScoreHandles$Handle;"⟩, 2) := ⟨⟨by decide +kernel, by decide +kernel⟩, List.mem_of_getElem? (i := 42) (by decide +kernel), List.mem_of_getElem? (i := 322) (by decide +kernel), List.mem_of_getElem? (i := 323) (by decide +kernel)⟩
theorem lw_p14 : lw_okq (⟨"ScoreHandles$Maker", "isSecondTold", "(LScoreHandles$Handle;)Z"⟩, 2) := ⟨⟨by decide +kernel, by decide +kernel⟩, List.mem_of_getElem? (i := 58) (by decide +kernel), List.mem_of_getElem? (i := 326) (by decide +kernel), List.mem_of_getElem? (i := 327) (by decide +kernel)⟩
theorem lw_p15 : lw_okq (⟨"ScoreHandles$Maker", "parametersOf", "(I)I"⟩, 2) := ⟨⟨by decide +kernel, by decide +kernel⟩, List.mem_of_getElem? (i := 58) (by decide +kernel), List.mem_of_getElem? (i := 330) (by decide +kernel), List.mem_of_getElem? (i := 331) (by decide +kernel)⟩
def lw_privs_1 : List (MethodName × Nat) := [(⟨"ScoreHandles$Rows", "added", "(II)I"⟩, 2), (⟨"ScoreHandles$Rows", "at", "(J)LScoreHandles$Row;"⟩, 2), (⟨"ScoreHandles$Row", "has", "(J)Z"⟩, 2), (⟨"ScoreHandles$Real", "plain", "(J)J"⟩, 7), (⟨"ScoreHandles$Real", "isNoNumber", "(J)Z"⟩, 7), (⟨"ScoreHandles$Real", "magnitude", "(J)J"⟩, 7), (⟨"ScoreHandles$Real", "infinity", "()J"⟩, 7), (⟨"ScoreHandles$Real", "noNumber", "()J"⟩, 7), (⟨"ScoreHandles$Row", "set", "(JJ)V"⟩, 2), (⟨"ScoreHandles$Row", "get", "(J)J"⟩, 2), (⟨"ScoreHandles$Row", "many", "()I"⟩, 2), (⟨"ScoreHandles$Maker", "isTold", "(LScoreHandles$Handle;)Z"⟩, 2), (⟨"ScoreHandles$Maker", "isFirstTold", "(LScoreHandles$Handle;)Z"⟩, 2), (⟨"ScoreHandles$Handles", "at", "(I)LScoreHandles$Handle;"⟩, 2), (⟨"ScoreHandles$Maker", "isSecondTold", "(LScoreHandles$Handle;)Z"⟩, 2), (⟨"ScoreHandles$Maker", "parametersOf", "(I)I"⟩, 2)]
theorem lw_r1 : ∀ q ∈ lw_privs_1, lw_okq q := List.forall_mem_cons.mpr ⟨lw_p0, List.forall_mem_cons.mpr ⟨lw_p1, List.forall_mem_cons.mpr ⟨lw_p2, List.forall_mem_cons.mpr ⟨lw_p3, List.forall_mem_cons.mpr ⟨lw_p4, List.forall_mem_cons.mpr ⟨lw_p5, List.forall_mem_cons.mpr ⟨lw_p6, List.forall_mem_cons.mpr ⟨lw_p7, List.forall_mem_cons.mpr ⟨lw_p8, List.forall_mem_cons.mpr ⟨lw_p9, List.forall_mem_cons.mpr ⟨lw_p10, List.forall_mem_cons.mpr ⟨lw_p11, List.forall_mem_cons.mpr ⟨lw_p12, List.forall_mem_cons.mpr ⟨lw_p13, List.forall_mem_cons.mpr ⟨lw_p14, List.forall_mem_cons.mpr ⟨lw_p15, fun _ h => absurd h List.not_mem_nil⟩⟩⟩⟩⟩⟩⟩⟩⟩⟩⟩⟩⟩⟩⟩⟩
theorem lw_p16 : lw_okq (⟨"ScoreHandles$Handles", "typeAt", "(I)LScoreHandles$Type;"⟩, 2) := ⟨⟨by decide +kernel, by decide +kernel⟩, List.mem_of_getElem? (i := 42) (by decide +kernel), List.mem_of_getElem? (i := 334) (by decide +kernel), List.mem_of_getElem? (i := 335) (by decide +kernel)⟩
theorem lw_p17 : lw_okq (⟨"ScoreHandles$Maker", "isThirdTold", "(LScoreHandles$Handle;)Z"⟩, 2) := ⟨⟨by decide +kernel, by decide +kernel⟩, List.mem_of_getElem? (i := 58) (by decide +kernel), List.mem_of_getElem? (i := 342) (by decide +kernel), List.mem_of_getElem? (i := 343) (by decide +kernel)⟩
theorem lw_p18 : lw_okq (⟨"ScoreHandles$Maker", "kindOfBits", "(LScoreHandles$Handle;)I"⟩, 2) := ⟨⟨by decide +kernel, by decide +kernel⟩, List.mem_of_getElem? (i := 58) (by decide +kernel), List.mem_of_getElem? (i := 346) (by decide +kernel), List.mem_of_getElem? (i := 347) (by decide +kernel)⟩
theorem lw_p19 : lw_okq (⟨"ScoreHandles$Type", "kind", "(I)I"⟩, 3) := ⟨⟨by decide +kernel, by decide +kernel⟩, List.mem_of_getElem? (i := 104) (by decide +kernel), List.mem_of_getElem? (i := 350) (by decide +kernel), List.mem_of_getElem? (i := 351) (by decide +kernel)⟩
theorem lw_p20 : lw_okq (⟨"ScoreHandles$Rows", "mayBe", "(IJ)Z"⟩, 2) := ⟨⟨by decide +kernel, by decide +kernel⟩, List.mem_of_getElem? (i := 26) (by decide +kernel), List.mem_of_getElem? (i := 354) (by decide +kernel), List.mem_of_getElem? (i := 355) (by decide +kernel)⟩
theorem lw_p21 : lw_okq (⟨"ScoreHandles$Maker", "typeOf", "(LScoreHandles$Handle;LScoreHandles$Type;)LScoreHandles$Type;"⟩, 2) := ⟨⟨by decide +kernel, by decide +kernel⟩, List.mem_of_getElem? (i := 58) (by decide +kernel), List.mem_of_getElem? (i := 363) (by decide +kernel), List.mem_of_getElem? (i := 364) (by decide +kernel)⟩
theorem lw_p22 : lw_okq (⟨"ScoreHandles$Type", "longer", "(II)LScoreHandles$Type;"⟩, 3) := ⟨⟨by decide +kernel, by decide +kernel⟩, List.mem_of_getElem? (i := 104) (by decide +kernel), List.mem_of_getElem? (i := 375) (by decide +kernel), List.mem_of_getElem? (i := 376) (by decide +kernel)⟩
theorem lw_p23 : lw_okq (⟨"ScoreHandles$Type", "swapped", "(I)LScoreHandles$Type;"⟩, 3) := ⟨⟨by decide +kernel, by decide +kernel⟩, List.mem_of_getElem? (i := 104) (by decide +kernel), List.mem_of_getElem? (i := 381) (by decide +kernel), List.mem_of_getElem? (i := 382) (by decide +kernel)⟩
theorem lw_p24 : lw_okq (⟨"ScoreHandles$Type", "changed", "(II)LScoreHandles$Type;"⟩, 3) := ⟨⟨by decide +kernel, by decide +kernel⟩, List.mem_of_getElem? (i := 104) (by decide +kernel), List.mem_of_getElem? (i := 385) (by decide +kernel), List.mem_of_getElem? (i := 386) (by decide +kernel)⟩
theorem lw_p25 : lw_okq (⟨"ScoreHandles$Type", "withoutFirst", "()LScoreHandles$Type;"⟩, 3) := ⟨⟨by decide +kernel, by decide +kernel⟩, List.mem_of_getElem? (i := 104) (by decide +kernel), List.mem_of_getElem? (i := 389) (by decide +kernel), List.mem_of_getElem? (i := 390) (by decide +kernel)⟩
theorem lw_p26 : lw_okq (⟨"ScoreHandles$Type", "goesTo", "(LScoreHandles$Type;)Z"⟩, 3) := ⟨⟨by decide +kernel, by decide +kernel⟩, List.mem_of_getElem? (i := 104) (by decide +kernel), List.mem_of_getElem? (i := 394) (by decide +kernel), List.mem_of_getElem? (i := 395) (by decide +kernel)⟩
theorem lw_p27 : lw_okq (⟨"ScoreHandles$Maker", "typeOfSome", "(LScoreHandles$Handle;LScoreHandles$Type;)LScoreHandles$Type;"⟩, 2) := ⟨⟨by decide +kernel, by decide +kernel⟩, List.mem_of_getElem? (i := 58) (by decide +kernel), List.mem_of_getElem? (i := 402) (by decide +kernel), List.mem_of_getElem? (i := 403) (by decide +kernel)⟩
theorem lw_p28 : lw_okq (⟨"ScoreHandles$Type", "isFirstOf", "(LScoreHandles$Type;II)Z"⟩, 3) := ⟨⟨by decide +kernel, by decide +kernel⟩, List.mem_of_getElem? (i := 104) (by decide +kernel), List.mem_of_getElem? (i := 413) (by decide +kernel), List.mem_of_getElem? (i := 414) (by decide +kernel)⟩
theorem lw_p29 : lw_okq (⟨"ScoreHandles$Type", "giving", "(I)LScoreHandles$Type;"⟩, 3) := ⟨⟨by decide +kernel, by decide +kernel⟩, List.mem_of_getElem? (i := 104) (by decide +kernel), List.mem_of_getElem? (i := 420) (by decide +kernel), List.mem_of_getElem? (i := 421) (by decide +kernel)⟩
theorem lw_p30 : lw_okq (⟨"ScoreHandles$Type", "isSame", "(LScoreHandles$Type;)Z"⟩, 3) := ⟨⟨by decide +kernel, by decide +kernel⟩, List.mem_of_getElem? (i := 104) (by decide +kernel), List.mem_of_getElem? (i := 427) (by decide +kernel), List.mem_of_getElem? (i := 428) (by decide +kernel)⟩
theorem lw_p31 : lw_okq (⟨"ScoreHandles$Maker", "bitsOf", "(LScoreHandles$Handle;)J"⟩, 2) := ⟨⟨by decide +kernel, by decide +kernel⟩, List.mem_of_getElem? (i := 58) (by decide +kernel), List.mem_of_getElem? (i := 438) (by decide +kernel), List.mem_of_getElem? (i := 439) (by decide +kernel)⟩
def lw_privs_2 : List (MethodName × Nat) := [(⟨"ScoreHandles$Handles", "typeAt", "(I)LScoreHandles$Type;"⟩, 2), (⟨"ScoreHandles$Maker", "isThirdTold", "(LScoreHandles$Handle;)Z"⟩, 2), (⟨"ScoreHandles$Maker", "kindOfBits", "(LScoreHandles$Handle;)I"⟩, 2), (⟨"ScoreHandles$Type", "kind", "(I)I"⟩, 3), (⟨"ScoreHandles$Rows", "mayBe", "(IJ)Z"⟩, 2), (⟨"ScoreHandles$Maker", "typeOf", "(LScoreHandles$Handle;LScoreHandles$Type;)LScoreHandles$Type;"⟩, 2), (⟨"ScoreHandles$Type", "longer", "(II)LScoreHandles$Type;"⟩, 3), (⟨"ScoreHandles$Type", "swapped", "(I)LScoreHandles$Type;"⟩, 3), (⟨"ScoreHandles$Type", "changed", "(II)LScoreHandles$Type;"⟩, 3), (⟨"ScoreHandles$Type", "withoutFirst", "()LScoreHandles$Type;"⟩, 3), (⟨"ScoreHandles$Type", "goesTo", "(LScoreHandles$Type;)Z"⟩, 3), (⟨"ScoreHandles$Maker", "typeOfSome", "(LScoreHandles$Handle;LScoreHandles$Type;)LScoreHandles$Type;"⟩, 2), (⟨"ScoreHandles$Type", "isFirstOf", "(LScoreHandles$Type;II)Z"⟩, 3), (⟨"ScoreHandles$Type", "giving", "(I)LScoreHandles$Type;"⟩, 3), (⟨"ScoreHandles$Type", "isSame", "(LScoreHandles$Type;)Z"⟩, 3), (⟨"ScoreHandles$Maker", "bitsOf", "(LScoreHandles$Handle;)J"⟩, 2)]
theorem lw_r2 : ∀ q ∈ lw_privs_2, lw_okq q := List.forall_mem_cons.mpr ⟨lw_p16, List.forall_mem_cons.mpr ⟨lw_p17, List.forall_mem_cons.mpr ⟨lw_p18, List.forall_mem_cons.mpr ⟨lw_p19, List.forall_mem_cons.mpr ⟨lw_p20, List.forall_mem_cons.mpr ⟨lw_p21, List.forall_mem_cons.mpr ⟨lw_p22, List.forall_mem_cons.mpr ⟨lw_p23, List.forall_mem_cons.mpr ⟨lw_p24, List.forall_mem_cons.mpr ⟨lw_p25, List.forall_mem_cons.mpr ⟨lw_p26, List.forall_mem_cons.mpr ⟨lw_p27, List.forall_mem_cons.mpr ⟨lw_p28, List.forall_mem_cons.mpr ⟨lw_p29, List.forall_mem_cons.mpr ⟨lw_p30, List.forall_mem_cons.mpr ⟨lw_p31, fun _ h => absurd h List.not_mem_nil⟩⟩⟩⟩⟩⟩⟩⟩⟩⟩⟩⟩⟩⟩⟩⟩
theorem lw_p32 : lw_okq (⟨"ScoreHandles$Handle", "settle", "(LScoreHandles$Type;J)V"⟩, 7) := ⟨⟨by decide +kernel, by decide +kernel⟩, List.mem_of_getElem? (i := 256) (by decide +kernel), List.mem_of_getElem? (i := 443) (by decide +kernel), List.mem_of_getElem? (i := 444) (by decide +kernel)⟩
theorem lw_p33 : lw_okq (⟨"ScoreHandles$Handles", "numberOf", "(LScoreHandles$Handle;)I"⟩, 2) := ⟨⟨by decide +kernel, by decide +kernel⟩, List.mem_of_getElem? (i := 42) (by decide +kernel), List.mem_of_getElem? (i := 447) (by decide +kernel), List.mem_of_getElem? (i := 448) (by decide +kernel)⟩
theorem lw_p34 : lw_okq (⟨"ScoreHandles$Handle", "isMadeAs", "(LScoreHandles$Handle;)Z"⟩, 7) := ⟨⟨by decide +kernel, by decide +kernel⟩, List.mem_of_getElem? (i := 256) (by decide +kernel), List.mem_of_getElem? (i := 451) (by decide +kernel), List.mem_of_getElem? (i := 452) (by decide +kernel)⟩
theorem lw_p35 : lw_okq (⟨"ScoreHandles", "givenRowsAreThere", "()Z"⟩, 8) := ⟨⟨by decide +kernel, by decide +kernel⟩, List.mem_of_getElem? (i := 18) (by decide +kernel), List.mem_of_getElem? (i := 476) (by decide +kernel), List.mem_of_getElem? (i := 477) (by decide +kernel)⟩
theorem lw_p36 : lw_okq (⟨"ScoreHandles$Runner", "forget", "()V"⟩, 7) := ⟨⟨by decide +kernel, by decide +kernel⟩, List.mem_of_getElem? (i := 71) (by decide +kernel), List.mem_of_getElem? (i := 481) (by decide +kernel), List.mem_of_getElem? (i := 482) (by decide +kernel)⟩
theorem lw_p37 : lw_okq (⟨"ScoreHandles", "handOverNumbers", "(LScoreHandles$Type;)V"⟩, 8) := ⟨⟨by decide +kernel, by decide +kernel⟩, List.mem_of_getElem? (i := 18) (by decide +kernel), List.mem_of_getElem? (i := 485) (by decide +kernel), List.mem_of_getElem? (i := 486) (by decide +kernel)⟩
theorem lw_p38 : lw_okq (⟨"ScoreHandles$Real", "fromWhole", "(J)J"⟩, 7) := ⟨⟨by decide +kernel, by decide +kernel⟩, List.mem_of_getElem? (i := 202) (by decide +kernel), List.mem_of_getElem? (i := 492) (by decide +kernel), List.mem_of_getElem? (i := 493) (by decide +kernel)⟩
theorem lw_p39 : lw_okq (⟨"ScoreHandles$Real", "rounded", "(ZJI)J"⟩, 7) := ⟨⟨by decide +kernel, by decide +kernel⟩, List.mem_of_getElem? (i := 202) (by decide +kernel), List.mem_of_getElem? (i := 498) (by decide +kernel), List.mem_of_getElem? (i := 499) (by decide +kernel)⟩
theorem lw_p40 : lw_okq (⟨"ScoreHandles$Real", "signed", "(ZJ)J"⟩, 7) := ⟨⟨by decide +kernel, by decide +kernel⟩, List.mem_of_getElem? (i := 202) (by decide +kernel), List.mem_of_getElem? (i := 505) (by decide +kernel), List.mem_of_getElem? (i := 506) (by decide +kernel)⟩
theorem lw_p41 : lw_okq (⟨"ScoreHandles$Real", "fromSingle", "(J)J"⟩, 7) := ⟨⟨by decide +kernel, by decide +kernel⟩, List.mem_of_getElem? (i := 202) (by decide +kernel), List.mem_of_getElem? (i := 512) (by decide +kernel), List.mem_of_getElem? (i := 513) (by decide +kernel)⟩
theorem lw_p42 : lw_okq (⟨"ScoreHandles$Real", "significand", "(J)J"⟩, 7) := ⟨⟨by decide +kernel, by decide +kernel⟩, List.mem_of_getElem? (i := 202) (by decide +kernel), List.mem_of_getElem? (i := 517) (by decide +kernel), List.mem_of_getElem? (i := 518) (by decide +kernel)⟩
theorem lw_p43 : lw_okq (⟨"ScoreHandles$Real", "power", "(J)I"⟩, 7) := ⟨⟨by decide +kernel, by decide +kernel⟩, List.mem_of_getElem? (i := 202) (by decide +kernel), List.mem_of_getElem? (i := 521) (by decide +kernel), List.mem_of_getElem? (i := 522) (by decide +kernel)⟩
theorem lw_p44 : lw_okq (⟨"ScoreHandles$Runner", "hand", "(IIJ)V"⟩, 7) := ⟨⟨by decide +kernel, by decide +kernel⟩, List.mem_of_getElem? (i := 71) (by decide +kernel), List.mem_of_getElem? (i := 526) (by decide +kernel), List.mem_of_getElem? (i := 527) (by decide +kernel)⟩
theorem lw_p45 : lw_okq (⟨"ScoreHandles$Runner", "perform", "(II)J"⟩, 7) := ⟨⟨by decide +kernel, by decide +kernel⟩, List.mem_of_getElem? (i := 71) (by decide +kernel), List.mem_of_getElem? (i := 533) (by decide +kernel), List.mem_of_getElem? (i := 534) (by decide +kernel)⟩
theorem lw_p46 : lw_okq (⟨"ScoreHandles$Runner", "spent", "(I)J"⟩, 7) := ⟨⟨by decide +kernel, by decide +kernel⟩, List.mem_of_getElem? (i := 71) (by decide +kernel), List.mem_of_getElem? (i := 538) (by decide +kernel), List.mem_of_getElem? (i := 539) (by decide +kernel)⟩
theorem lw_p47 : lw_okq (⟨"ScoreHandles$Runner", "taken", "(II)J"⟩, 7) := ⟨⟨by decide +kernel, by decide +kernel⟩, List.mem_of_getElem? (i := 71) (by decide +kernel), List.mem_of_getElem? (i := 542) (by decide +kernel), List.mem_of_getElem? (i := 543) (by decide +kernel)⟩
def lw_privs_3 : List (MethodName × Nat) := [(⟨"ScoreHandles$Handle", "settle", "(LScoreHandles$Type;J)V"⟩, 7), (⟨"ScoreHandles$Handles", "numberOf", "(LScoreHandles$Handle;)I"⟩, 2), (⟨"ScoreHandles$Handle", "isMadeAs", "(LScoreHandles$Handle;)Z"⟩, 7), (⟨"ScoreHandles", "givenRowsAreThere", "()Z"⟩, 8), (⟨"ScoreHandles$Runner", "forget", "()V"⟩, 7), (⟨"ScoreHandles", "handOverNumbers", "(LScoreHandles$Type;)V"⟩, 8), (⟨"ScoreHandles$Real", "fromWhole", "(J)J"⟩, 7), (⟨"ScoreHandles$Real", "rounded", "(ZJI)J"⟩, 7), (⟨"ScoreHandles$Real", "signed", "(ZJ)J"⟩, 7), (⟨"ScoreHandles$Real", "fromSingle", "(J)J"⟩, 7), (⟨"ScoreHandles$Real", "significand", "(J)J"⟩, 7), (⟨"ScoreHandles$Real", "power", "(J)I"⟩, 7), (⟨"ScoreHandles$Runner", "hand", "(IIJ)V"⟩, 7), (⟨"ScoreHandles$Runner", "perform", "(II)J"⟩, 7), (⟨"ScoreHandles$Runner", "spent", "(I)J"⟩, 7), (⟨"ScoreHandles$Runner", "taken", "(II)J"⟩, 7)]
theorem lw_r3 : ∀ q ∈ lw_privs_3, lw_okq q := List.forall_mem_cons.mpr ⟨lw_p32, List.forall_mem_cons.mpr ⟨lw_p33, List.forall_mem_cons.mpr ⟨lw_p34, List.forall_mem_cons.mpr ⟨lw_p35, List.forall_mem_cons.mpr ⟨lw_p36, List.forall_mem_cons.mpr ⟨lw_p37, List.forall_mem_cons.mpr ⟨lw_p38, List.forall_mem_cons.mpr ⟨lw_p39, List.forall_mem_cons.mpr ⟨lw_p40, List.forall_mem_cons.mpr ⟨lw_p41, List.forall_mem_cons.mpr ⟨lw_p42, List.forall_mem_cons.mpr ⟨lw_p43, List.forall_mem_cons.mpr ⟨lw_p44, List.forall_mem_cons.mpr ⟨lw_p45, List.forall_mem_cons.mpr ⟨lw_p46, List.forall_mem_cons.mpr ⟨lw_p47, fun _ h => absurd h List.not_mem_nil⟩⟩⟩⟩⟩⟩⟩⟩⟩⟩⟩⟩⟩⟩⟩⟩
theorem lw_p48 : lw_okq (⟨"ScoreHandles$Real", "sumOf", "(JJ)J"⟩, 7) := ⟨⟨by decide +kernel, by decide +kernel⟩, List.mem_of_getElem? (i := 202) (by decide +kernel), List.mem_of_getElem? (i := 550) (by decide +kernel), List.mem_of_getElem? (i := 551) (by decide +kernel)⟩
theorem lw_p49 : lw_okq (⟨"ScoreHandles$Real", "sumBeyond", "(JJ)J"⟩, 7) := ⟨⟨by decide +kernel, by decide +kernel⟩, List.mem_of_getElem? (i := 202) (by decide +kernel), List.mem_of_getElem? (i := 554) (by decide +kernel), List.mem_of_getElem? (i := 555) (by decide +kernel)⟩
theorem lw_p50 : lw_okq (⟨"ScoreHandles$Real", "aligned", "(JI)J"⟩, 7) := ⟨⟨by decide +kernel, by decide +kernel⟩, List.mem_of_getElem? (i := 202) (by decide +kernel), List.mem_of_getElem? (i := 558) (by decide +kernel), List.mem_of_getElem? (i := 559) (by decide +kernel)⟩
theorem lw_p51 : lw_okq (⟨"ScoreHandles$Runner", "quotient", "(LScoreHandles$Handle;JJ)J"⟩, 7) := ⟨⟨by decide +kernel, by decide +kernel⟩, List.mem_of_getElem? (i := 71) (by decide +kernel), List.mem_of_getElem? (i := 563) (by decide +kernel), List.mem_of_getElem? (i := 564) (by decide +kernel)⟩
theorem lw_p52 : lw_okq (⟨"ScoreHandles$Real", "quotientOf", "(JJ)J"⟩, 7) := ⟨⟨by decide +kernel, by decide +kernel⟩, List.mem_of_getElem? (i := 202) (by decide +kernel), List.mem_of_getElem? (i := 567) (by decide +kernel), List.mem_of_getElem? (i := 568) (by decide +kernel)⟩
theorem lw_p53 : lw_okq (⟨"ScoreHandles$Real", "divided", "(ZJJ)J"⟩, 7) := ⟨⟨by decide +kernel, by decide +kernel⟩, List.mem_of_getElem? (i := 202) (by decide +kernel), List.mem_of_getElem? (i := 571) (by decide +kernel), List.mem_of_getElem? (i := 572) (by decide +kernel)⟩
theorem lw_p54 : lw_okq (⟨"ScoreHandles$Runner", "fail", "(LScoreHandles$Handle;I)J"⟩, 7) := ⟨⟨by decide +kernel, by decide +kernel⟩, List.mem_of_getElem? (i := 71) (by decide +kernel), List.mem_of_getElem? (i := 576) (by decide +kernel), List.mem_of_getElem? (i := 577) (by decide +kernel)⟩
theorem lw_p55 : lw_okq (⟨"ScoreHandles$Real", "isAbove", "(JJ)Z"⟩, 7) := ⟨⟨by decide +kernel, by decide +kernel⟩, List.mem_of_getElem? (i := 202) (by decide +kernel), List.mem_of_getElem? (i := 583) (by decide +kernel), List.mem_of_getElem? (i := 584) (by decide +kernel)⟩
theorem lw_p56 : lw_okq (⟨"ScoreHandles$Real", "ordered", "(J)J"⟩, 7) := ⟨⟨by decide +kernel, by decide +kernel⟩, List.mem_of_getElem? (i := 202) (by decide +kernel), List.mem_of_getElem? (i := 587) (by decide +kernel), List.mem_of_getElem? (i := 588) (by decide +kernel)⟩
theorem lw_p57 : lw_okq (⟨"ScoreHandles$Runner", "arrange", "(LScoreHandles$Handle;I)J"⟩, 7) := ⟨⟨by decide +kernel, by decide +kernel⟩, List.mem_of_getElem? (i := 71) (by decide +kernel), List.mem_of_getElem? (i := 591) (by decide +kernel), List.mem_of_getElem? (i := 592) (by decide +kernel)⟩
theorem lw_p58 : lw_okq (⟨"ScoreHandles$Runner", "handOn", "(III)V"⟩, 7) := ⟨⟨by decide +kernel, by decide +kernel⟩, List.mem_of_getElem? (i := 71) (by decide +kernel), List.mem_of_getElem? (i := 595) (by decide +kernel), List.mem_of_getElem? (i := 596) (by decide +kernel)⟩
theorem lw_p59 : lw_okq (⟨"ScoreHandles$Runner", "filter", "(LScoreHandles$Handle;I)J"⟩, 7) := ⟨⟨by decide +kernel, by decide +kernel⟩, List.mem_of_getElem? (i := 71) (by decide +kernel), List.mem_of_getElem? (i := 602) (by decide +kernel), List.mem_of_getElem? (i := 603) (by decide +kernel)⟩
theorem lw_p60 : lw_okq (⟨"ScoreHandles$Runner", "fold", "(LScoreHandles$Handle;I)J"⟩, 7) := ⟨⟨by decide +kernel, by decide +kernel⟩, List.mem_of_getElem? (i := 71) (by decide +kernel), List.mem_of_getElem? (i := 606) (by decide +kernel), List.mem_of_getElem? (i := 607) (by decide +kernel)⟩
theorem lw_p61 : lw_okq (⟨"ScoreHandles$Runner", "thenOther", "(LScoreHandles$Handle;I)J"⟩, 7) := ⟨⟨by decide +kernel, by decide +kernel⟩, List.mem_of_getElem? (i := 71) (by decide +kernel), List.mem_of_getElem? (i := 610) (by decide +kernel), List.mem_of_getElem? (i := 611) (by decide +kernel)⟩
theorem lw_p62 : lw_okq (⟨"ScoreHandles$Runner", "guard", "(LScoreHandles$Handle;I)J"⟩, 7) := ⟨⟨by decide +kernel, by decide +kernel⟩, List.mem_of_getElem? (i := 71) (by decide +kernel), List.mem_of_getElem? (i := 614) (by decide +kernel), List.mem_of_getElem? (i := 615) (by decide +kernel)⟩
theorem lw_p63 : lw_okq (⟨"ScoreHandles$Runner", "catchFailure", "(LScoreHandles$Handle;I)J"⟩, 7) := ⟨⟨by decide +kernel, by decide +kernel⟩, List.mem_of_getElem? (i := 71) (by decide +kernel), List.mem_of_getElem? (i := 618) (by decide +kernel), List.mem_of_getElem? (i := 619) (by decide +kernel)⟩
def lw_privs_4 : List (MethodName × Nat) := [(⟨"ScoreHandles$Real", "sumOf", "(JJ)J"⟩, 7), (⟨"ScoreHandles$Real", "sumBeyond", "(JJ)J"⟩, 7), (⟨"ScoreHandles$Real", "aligned", "(JI)J"⟩, 7), (⟨"ScoreHandles$Runner", "quotient", "(LScoreHandles$Handle;JJ)J"⟩, 7), (⟨"ScoreHandles$Real", "quotientOf", "(JJ)J"⟩, 7), (⟨"ScoreHandles$Real", "divided", "(ZJJ)J"⟩, 7), (⟨"ScoreHandles$Runner", "fail", "(LScoreHandles$Handle;I)J"⟩, 7), (⟨"ScoreHandles$Real", "isAbove", "(JJ)Z"⟩, 7), (⟨"ScoreHandles$Real", "ordered", "(J)J"⟩, 7), (⟨"ScoreHandles$Runner", "arrange", "(LScoreHandles$Handle;I)J"⟩, 7), (⟨"ScoreHandles$Runner", "handOn", "(III)V"⟩, 7), (⟨"ScoreHandles$Runner", "filter", "(LScoreHandles$Handle;I)J"⟩, 7), (⟨"ScoreHandles$Runner", "fold", "(LScoreHandles$Handle;I)J"⟩, 7), (⟨"ScoreHandles$Runner", "thenOther", "(LScoreHandles$Handle;I)J"⟩, 7), (⟨"ScoreHandles$Runner", "guard", "(LScoreHandles$Handle;I)J"⟩, 7), (⟨"ScoreHandles$Runner", "catchFailure", "(LScoreHandles$Handle;I)J"⟩, 7)]
theorem lw_r4 : ∀ q ∈ lw_privs_4, lw_okq q := List.forall_mem_cons.mpr ⟨lw_p48, List.forall_mem_cons.mpr ⟨lw_p49, List.forall_mem_cons.mpr ⟨lw_p50, List.forall_mem_cons.mpr ⟨lw_p51, List.forall_mem_cons.mpr ⟨lw_p52, List.forall_mem_cons.mpr ⟨lw_p53, List.forall_mem_cons.mpr ⟨lw_p54, List.forall_mem_cons.mpr ⟨lw_p55, List.forall_mem_cons.mpr ⟨lw_p56, List.forall_mem_cons.mpr ⟨lw_p57, List.forall_mem_cons.mpr ⟨lw_p58, List.forall_mem_cons.mpr ⟨lw_p59, List.forall_mem_cons.mpr ⟨lw_p60, List.forall_mem_cons.mpr ⟨lw_p61, List.forall_mem_cons.mpr ⟨lw_p62, List.forall_mem_cons.mpr ⟨lw_p63, fun _ h => absurd h List.not_mem_nil⟩⟩⟩⟩⟩⟩⟩⟩⟩⟩⟩⟩⟩⟩⟩⟩
theorem lw_p64 : lw_okq (⟨"ScoreHandles$Runner", "doAtLast", "(LScoreHandles$Handle;I)J"⟩, 7) := ⟨⟨by decide +kernel, by decide +kernel⟩, List.mem_of_getElem? (i := 71) (by decide +kernel), List.mem_of_getElem? (i := 622) (by decide +kernel), List.mem_of_getElem? (i := 623) (by decide +kernel)⟩
theorem lw_p65 : lw_okq (⟨"ScoreHandles$Runner", "loop", "(LScoreHandles$Handle;I)J"⟩, 7) := ⟨⟨by decide +kernel, by decide +kernel⟩, List.mem_of_getElem? (i := 71) (by decide +kernel), List.mem_of_getElem? (i := 630) (by decide +kernel), List.mem_of_getElem? (i := 631) (by decide +kernel)⟩
theorem lw_p66 : lw_okq (⟨"ScoreHandles$Runner", "widen", "(LScoreHandles$Handle;I)J"⟩, 7) := ⟨⟨by decide +kernel, by decide +kernel⟩, List.mem_of_getElem? (i := 71) (by decide +kernel), List.mem_of_getElem? (i := 638) (by decide +kernel), List.mem_of_getElem? (i := 639) (by decide +kernel)⟩
theorem lw_p67 : lw_okq (⟨"ScoreHandles$Runner", "act", "(LScoreHandles$Handle;I)J"⟩, 7) := ⟨⟨by decide +kernel, by decide +kernel⟩, List.mem_of_getElem? (i := 71) (by decide +kernel), List.mem_of_getElem? (i := 645) (by decide +kernel), List.mem_of_getElem? (i := 646) (by decide +kernel)⟩
theorem lw_p68 : lw_okq (⟨"ScoreHandles$Runner", "read", "(LScoreHandles$Handle;JJ)J"⟩, 7) := ⟨⟨by decide +kernel, by decide +kernel⟩, List.mem_of_getElem? (i := 71) (by decide +kernel), List.mem_of_getElem? (i := 649) (by decide +kernel), List.mem_of_getElem? (i := 650) (by decide +kernel)⟩
theorem lw_p69 : lw_okq (⟨"ScoreHandles$Runner", "write", "(LScoreHandles$Handle;JJJ)J"⟩, 7) := ⟨⟨by decide +kernel, by decide +kernel⟩, List.mem_of_getElem? (i := 71) (by decide +kernel), List.mem_of_getElem? (i := 656) (by decide +kernel), List.mem_of_getElem? (i := 657) (by decide +kernel)⟩
theorem lw_p70 : lw_okq (⟨"ScoreHandles$Runner", "sizeOf", "(LScoreHandles$Handle;J)J"⟩, 7) := ⟨⟨by decide +kernel, by decide +kernel⟩, List.mem_of_getElem? (i := 71) (by decide +kernel), List.mem_of_getElem? (i := 661) (by decide +kernel), List.mem_of_getElem? (i := 662) (by decide +kernel)⟩
theorem lw_p71 : lw_okq (⟨"ScoreHandles$Runner", "newRow", "(LScoreHandles$Handle;J)J"⟩, 7) := ⟨⟨by decide +kernel, by decide +kernel⟩, List.mem_of_getElem? (i := 71) (by decide +kernel), List.mem_of_getElem? (i := 666) (by decide +kernel), List.mem_of_getElem? (i := 667) (by decide +kernel)⟩
theorem lw_p72 : lw_okq (⟨"ScoreHandlesModel", "freshRow", "(II)I"⟩, 36) := ⟨⟨by decide +kernel, by decide +kernel⟩, List.mem_of_getElem? (i := 685) (by decide +kernel), List.mem_of_getElem? (i := 809) (by decide +kernel), List.mem_of_getElem? (i := 810) (by decide +kernel)⟩
theorem lw_p73 : lw_okq (⟨"ScoreHandlesModel", "isItem", "(JJ)Z"⟩, 36) := ⟨⟨by decide +kernel, by decide +kernel⟩, List.mem_of_getElem? (i := 685) (by decide +kernel), List.mem_of_getElem? (i := 817) (by decide +kernel), List.mem_of_getElem? (i := 818) (by decide +kernel)⟩
theorem lw_p74 : lw_okq (⟨"ScoreHandlesModel", "isRow", "(J)Z"⟩, 36) := ⟨⟨by decide +kernel, by decide +kernel⟩, List.mem_of_getElem? (i := 685) (by decide +kernel), List.mem_of_getElem? (i := 821) (by decide +kernel), List.mem_of_getElem? (i := 822) (by decide +kernel)⟩
theorem lw_p75 : lw_okq (⟨"ScoreHandlesModel", "makeFirst", "(IIIJ)I"⟩, 36) := ⟨⟨by decide +kernel, by decide +kernel⟩, List.mem_of_getElem? (i := 685) (by decide +kernel), List.mem_of_getElem? (i := 856) (by decide +kernel), List.mem_of_getElem? (i := 857) (by decide +kernel)⟩
theorem lw_p76 : lw_okq (⟨"ScoreHandlesModel", "isValue", "(IJ)Z"⟩, 36) := ⟨⟨by decide +kernel, by decide +kernel⟩, List.mem_of_getElem? (i := 685) (by decide +kernel), List.mem_of_getElem? (i := 864) (by decide +kernel), List.mem_of_getElem? (i := 865) (by decide +kernel)⟩
theorem lw_p77 : lw_okq (⟨"ScoreHandlesModel", "gives", "(I)V"⟩, 36) := ⟨⟨by decide +kernel, by decide +kernel⟩, List.mem_of_getElem? (i := 685) (by decide +kernel), List.mem_of_getElem? (i := 869) (by decide +kernel), List.mem_of_getElem? (i := 870) (by decide +kernel)⟩
theorem lw_p78 : lw_okq (⟨"ScoreHandlesModel", "takes", "(I)V"⟩, 36) := ⟨⟨by decide +kernel, by decide +kernel⟩, List.mem_of_getElem? (i := 685) (by decide +kernel), List.mem_of_getElem? (i := 873) (by decide +kernel), List.mem_of_getElem? (i := 874) (by decide +kernel)⟩
theorem lw_p79 : lw_okq (⟨"ScoreHandlesModel", "makeFilter", "(III)I"⟩, 36) := ⟨⟨by decide +kernel, by decide +kernel⟩, List.mem_of_getElem? (i := 685) (by decide +kernel), List.mem_of_getElem? (i := 877) (by decide +kernel), List.mem_of_getElem? (i := 878) (by decide +kernel)⟩
def lw_privs_5 : List (MethodName × Nat) := [(⟨"ScoreHandles$Runner", "doAtLast", "(LScoreHandles$Handle;I)J"⟩, 7), (⟨"ScoreHandles$Runner", "loop", "(LScoreHandles$Handle;I)J"⟩, 7), (⟨"ScoreHandles$Runner", "widen", "(LScoreHandles$Handle;I)J"⟩, 7), (⟨"ScoreHandles$Runner", "act", "(LScoreHandles$Handle;I)J"⟩, 7), (⟨"ScoreHandles$Runner", "read", "(LScoreHandles$Handle;JJ)J"⟩, 7), (⟨"ScoreHandles$Runner", "write", "(LScoreHandles$Handle;JJJ)J"⟩, 7), (⟨"ScoreHandles$Runner", "sizeOf", "(LScoreHandles$Handle;J)J"⟩, 7), (⟨"ScoreHandles$Runner", "newRow", "(LScoreHandles$Handle;J)J"⟩, 7), (⟨"ScoreHandlesModel", "freshRow", "(II)I"⟩, 36), (⟨"ScoreHandlesModel", "isItem", "(JJ)Z"⟩, 36), (⟨"ScoreHandlesModel", "isRow", "(J)Z"⟩, 36), (⟨"ScoreHandlesModel", "makeFirst", "(IIIJ)I"⟩, 36), (⟨"ScoreHandlesModel", "isValue", "(IJ)Z"⟩, 36), (⟨"ScoreHandlesModel", "gives", "(I)V"⟩, 36), (⟨"ScoreHandlesModel", "takes", "(I)V"⟩, 36), (⟨"ScoreHandlesModel", "makeFilter", "(III)I"⟩, 36)]
theorem lw_r5 : ∀ q ∈ lw_privs_5, lw_okq q := List.forall_mem_cons.mpr ⟨lw_p64, List.forall_mem_cons.mpr ⟨lw_p65, List.forall_mem_cons.mpr ⟨lw_p66, List.forall_mem_cons.mpr ⟨lw_p67, List.forall_mem_cons.mpr ⟨lw_p68, List.forall_mem_cons.mpr ⟨lw_p69, List.forall_mem_cons.mpr ⟨lw_p70, List.forall_mem_cons.mpr ⟨lw_p71, List.forall_mem_cons.mpr ⟨lw_p72, List.forall_mem_cons.mpr ⟨lw_p73, List.forall_mem_cons.mpr ⟨lw_p74, List.forall_mem_cons.mpr ⟨lw_p75, List.forall_mem_cons.mpr ⟨lw_p76, List.forall_mem_cons.mpr ⟨lw_p77, List.forall_mem_cons.mpr ⟨lw_p78, List.forall_mem_cons.mpr ⟨lw_p79, fun _ h => absurd h List.not_mem_nil⟩⟩⟩⟩⟩⟩⟩⟩⟩⟩⟩⟩⟩⟩⟩⟩
theorem lw_p80 : lw_okq (⟨"ScoreHandlesModel", "isHandle", "(I)Z"⟩, 36) := ⟨⟨by decide +kernel, by decide +kernel⟩, List.mem_of_getElem? (i := 685) (by decide +kernel), List.mem_of_getElem? (i := 881) (by decide +kernel), List.mem_of_getElem? (i := 882) (by decide +kernel)⟩
theorem lw_p81 : lw_okq (⟨"ScoreHandlesModel", "kind", "(II)I"⟩, 36) := ⟨⟨by decide +kernel, by decide +kernel⟩, List.mem_of_getElem? (i := 685) (by decide +kernel), List.mem_of_getElem? (i := 885) (by decide +kernel), List.mem_of_getElem? (i := 886) (by decide +kernel)⟩
theorem lw_p82 : lw_okq (⟨"ScoreHandlesModel", "makeGuard", "(III)I"⟩, 36) := ⟨⟨by decide +kernel, by decide +kernel⟩, List.mem_of_getElem? (i := 685) (by decide +kernel), List.mem_of_getElem? (i := 889) (by decide +kernel), List.mem_of_getElem? (i := 890) (by decide +kernel)⟩
theorem lw_p83 : lw_okq (⟨"ScoreHandlesModel", "takesOf", "(II)V"⟩, 36) := ⟨⟨by decide +kernel, by decide +kernel⟩, List.mem_of_getElem? (i := 685) (by decide +kernel), List.mem_of_getElem? (i := 893) (by decide +kernel), List.mem_of_getElem? (i := 894) (by decide +kernel)⟩
theorem lw_p84 : lw_okq (⟨"ScoreHandlesModel", "isAlike", "(II)Z"⟩, 36) := ⟨⟨by decide +kernel, by decide +kernel⟩, List.mem_of_getElem? (i := 685) (by decide +kernel), List.mem_of_getElem? (i := 897) (by decide +kernel), List.mem_of_getElem? (i := 898) (by decide +kernel)⟩
theorem lw_p85 : lw_okq (⟨"ScoreHandlesModel", "isFirst", "(IIII)Z"⟩, 36) := ⟨⟨by decide +kernel, by decide +kernel⟩, List.mem_of_getElem? (i := 685) (by decide +kernel), List.mem_of_getElem? (i := 901) (by decide +kernel), List.mem_of_getElem? (i := 902) (by decide +kernel)⟩
theorem lw_p86 : lw_okq (⟨"ScoreHandlesModel", "makeCatch", "(III)I"⟩, 36) := ⟨⟨by decide +kernel, by decide +kernel⟩, List.mem_of_getElem? (i := 685) (by decide +kernel), List.mem_of_getElem? (i := 905) (by decide +kernel), List.mem_of_getElem? (i := 906) (by decide +kernel)⟩
theorem lw_p87 : lw_okq (⟨"ScoreHandlesModel", "makeTwo", "(III)I"⟩, 36) := ⟨⟨by decide +kernel, by decide +kernel⟩, List.mem_of_getElem? (i := 685) (by decide +kernel), List.mem_of_getElem? (i := 912) (by decide +kernel), List.mem_of_getElem? (i := 913) (by decide +kernel)⟩
theorem lw_p88 : lw_okq (⟨"ScoreHandlesModel", "makeOne", "(IIIIJ)I"⟩, 36) := ⟨⟨by decide +kernel, by decide +kernel⟩, List.mem_of_getElem? (i := 685) (by decide +kernel), List.mem_of_getElem? (i := 916) (by decide +kernel), List.mem_of_getElem? (i := 917) (by decide +kernel)⟩
theorem lw_p89 : lw_okq (⟨"ScoreHandlesModel", "handGoes", "(I)Z"⟩, 36) := ⟨⟨by decide +kernel, by decide +kernel⟩, List.mem_of_getElem? (i := 685) (by decide +kernel), List.mem_of_getElem? (i := 920) (by decide +kernel), List.mem_of_getElem? (i := 921) (by decide +kernel)⟩
theorem lw_p90 : lw_okq (⟨"ScoreHandlesModel", "isOne", "(II)Z"⟩, 36) := ⟨⟨by decide +kernel, by decide +kernel⟩, List.mem_of_getElem? (i := 685) (by decide +kernel), List.mem_of_getElem? (i := 927) (by decide +kernel), List.mem_of_getElem? (i := 928) (by decide +kernel)⟩
theorem lw_p91 : lw_okq (⟨"ScoreHandlesModel", "isHand", "(I)Z"⟩, 36) := ⟨⟨by decide +kernel, by decide +kernel⟩, List.mem_of_getElem? (i := 685) (by decide +kernel), List.mem_of_getElem? (i := 939) (by decide +kernel), List.mem_of_getElem? (i := 940) (by decide +kernel)⟩
theorem lw_p92 : lw_okq (⟨"ScoreHandlesModel", "begin", "(I)V"⟩, 36) := ⟨⟨by decide +kernel, by decide +kernel⟩, List.mem_of_getElem? (i := 685) (by decide +kernel), List.mem_of_getElem? (i := 990) (by decide +kernel), List.mem_of_getElem? (i := 991) (by decide +kernel)⟩
theorem lw_p93 : lw_okq (⟨"ScoreHandlesModel", "one", "()V"⟩, 36) := ⟨⟨by decide +kernel, by decide +kernel⟩, List.mem_of_getElem? (i := 685) (by decide +kernel), List.mem_of_getElem? (i := 994) (by decide +kernel), List.mem_of_getElem? (i := 995) (by decide +kernel)⟩
theorem lw_p94 : lw_okq (⟨"ScoreHandlesModel", "acts", "(I)V"⟩, 36) := ⟨⟨by decide +kernel, by decide +kernel⟩, List.mem_of_getElem? (i := 685) (by decide +kernel), List.mem_of_getElem? (i := 998) (by decide +kernel), List.mem_of_getElem? (i := 999) (by decide +kernel)⟩
theorem lw_p95 : lw_okq (⟨"ScoreHandlesModel", "end", "(J)V"⟩, 36) := ⟨⟨by decide +kernel, by decide +kernel⟩, List.mem_of_getElem? (i := 685) (by decide +kernel), List.mem_of_getElem? (i := 1002) (by decide +kernel), List.mem_of_getElem? (i := 1003) (by decide +kernel)⟩
def lw_privs_6 : List (MethodName × Nat) := [(⟨"ScoreHandlesModel", "isHandle", "(I)Z"⟩, 36), (⟨"ScoreHandlesModel", "kind", "(II)I"⟩, 36), (⟨"ScoreHandlesModel", "makeGuard", "(III)I"⟩, 36), (⟨"ScoreHandlesModel", "takesOf", "(II)V"⟩, 36), (⟨"ScoreHandlesModel", "isAlike", "(II)Z"⟩, 36), (⟨"ScoreHandlesModel", "isFirst", "(IIII)Z"⟩, 36), (⟨"ScoreHandlesModel", "makeCatch", "(III)I"⟩, 36), (⟨"ScoreHandlesModel", "makeTwo", "(III)I"⟩, 36), (⟨"ScoreHandlesModel", "makeOne", "(IIIIJ)I"⟩, 36), (⟨"ScoreHandlesModel", "handGoes", "(I)Z"⟩, 36), (⟨"ScoreHandlesModel", "isOne", "(II)Z"⟩, 36), (⟨"ScoreHandlesModel", "isHand", "(I)Z"⟩, 36), (⟨"ScoreHandlesModel", "begin", "(I)V"⟩, 36), (⟨"ScoreHandlesModel", "one", "()V"⟩, 36), (⟨"ScoreHandlesModel", "acts", "(I)V"⟩, 36), (⟨"ScoreHandlesModel", "end", "(J)V"⟩, 36)]
theorem lw_r6 : ∀ q ∈ lw_privs_6, lw_okq q := List.forall_mem_cons.mpr ⟨lw_p80, List.forall_mem_cons.mpr ⟨lw_p81, List.forall_mem_cons.mpr ⟨lw_p82, List.forall_mem_cons.mpr ⟨lw_p83, List.forall_mem_cons.mpr ⟨lw_p84, List.forall_mem_cons.mpr ⟨lw_p85, List.forall_mem_cons.mpr ⟨lw_p86, List.forall_mem_cons.mpr ⟨lw_p87, List.forall_mem_cons.mpr ⟨lw_p88, List.forall_mem_cons.mpr ⟨lw_p89, List.forall_mem_cons.mpr ⟨lw_p90, List.forall_mem_cons.mpr ⟨lw_p91, List.forall_mem_cons.mpr ⟨lw_p92, List.forall_mem_cons.mpr ⟨lw_p93, List.forall_mem_cons.mpr ⟨lw_p94, List.forall_mem_cons.mpr ⟨lw_p95, fun _ h => absurd h List.not_mem_nil⟩⟩⟩⟩⟩⟩⟩⟩⟩⟩⟩⟩⟩⟩⟩⟩
theorem lw_p96 : lw_okq (⟨"ScoreHandlesModel", "reads", "(IZ)V"⟩, 36) := ⟨⟨by decide +kernel, by decide +kernel⟩, List.mem_of_getElem? (i := 685) (by decide +kernel), List.mem_of_getElem? (i := 1006) (by decide +kernel), List.mem_of_getElem? (i := 1007) (by decide +kernel)⟩
theorem lw_p97 : lw_okq (⟨"ScoreHandlesModel", "fail", "(I)V"⟩, 36) := ⟨⟨by decide +kernel, by decide +kernel⟩, List.mem_of_getElem? (i := 685) (by decide +kernel), List.mem_of_getElem? (i := 1010) (by decide +kernel), List.mem_of_getElem? (i := 1011) (by decide +kernel)⟩
theorem lw_p98 : lw_okq (⟨"ScoreHandlesModel", "reckons", "(I)V"⟩, 36) := ⟨⟨by decide +kernel, by decide +kernel⟩, List.mem_of_getElem? (i := 685) (by decide +kernel), List.mem_of_getElem? (i := 1014) (by decide +kernel), List.mem_of_getElem? (i := 1015) (by decide +kernel)⟩
theorem lw_p99 : lw_okq (⟨"ScoreHandlesModel", "catches", "(I)V"⟩, 36) := ⟨⟨by decide +kernel, by decide +kernel⟩, List.mem_of_getElem? (i := 685) (by decide +kernel), List.mem_of_getElem? (i := 1027) (by decide +kernel), List.mem_of_getElem? (i := 1028) (by decide +kernel)⟩
theorem lw_p100 : lw_okq (⟨"ScoreHandlesModel", "begins", "(I)V"⟩, 36) := ⟨⟨by decide +kernel, by decide +kernel⟩, List.mem_of_getElem? (i := 685) (by decide +kernel), List.mem_of_getElem? (i := 1031) (by decide +kernel), List.mem_of_getElem? (i := 1032) (by decide +kernel)⟩
theorem lw_p101 : lw_okq (⟨"ScoreHandlesModel", "pass", "(II)V"⟩, 36) := ⟨⟨by decide +kernel, by decide +kernel⟩, List.mem_of_getElem? (i := 685) (by decide +kernel), List.mem_of_getElem? (i := 1035) (by decide +kernel), List.mem_of_getElem? (i := 1036) (by decide +kernel)⟩
theorem lw_p102 : lw_okq (⟨"ScoreHandlesModel", "giveOn", "()V"⟩, 36) := ⟨⟨by decide +kernel, by decide +kernel⟩, List.mem_of_getElem? (i := 685) (by decide +kernel), List.mem_of_getElem? (i := 1039) (by decide +kernel), List.mem_of_getElem? (i := 1040) (by decide +kernel)⟩
theorem lw_p103 : lw_okq (⟨"ScoreHandlesModel", "lasts", "(I)V"⟩, 36) := ⟨⟨by decide +kernel, by decide +kernel⟩, List.mem_of_getElem? (i := 685) (by decide +kernel), List.mem_of_getElem? (i := 1043) (by decide +kernel), List.mem_of_getElem? (i := 1044) (by decide +kernel)⟩
theorem lw_p104 : lw_okq (⟨"ScoreHandlesModel", "loops", "(I)V"⟩, 36) := ⟨⟨by decide +kernel, by decide +kernel⟩, List.mem_of_getElem? (i := 685) (by decide +kernel), List.mem_of_getElem? (i := 1047) (by decide +kernel), List.mem_of_getElem? (i := 1048) (by decide +kernel)⟩
theorem lw_p105 : lw_okq (⟨"ScoreHandlesModel", "handsOn", "(I)V"⟩, 36) := ⟨⟨by decide +kernel, by decide +kernel⟩, List.mem_of_getElem? (i := 685) (by decide +kernel), List.mem_of_getElem? (i := 1051) (by decide +kernel), List.mem_of_getElem? (i := 1052) (by decide +kernel)⟩
theorem lw_p106 : lw_okq (⟨"ScoreHandlesModel", "goesOn", "(I)V"⟩, 36) := ⟨⟨by decide +kernel, by decide +kernel⟩, List.mem_of_getElem? (i := 685) (by decide +kernel), List.mem_of_getElem? (i := 1055) (by decide +kernel), List.mem_of_getElem? (i := 1056) (by decide +kernel)⟩
def lw_privs_7 : List (MethodName × Nat) := [(⟨"ScoreHandlesModel", "reads", "(IZ)V"⟩, 36), (⟨"ScoreHandlesModel", "fail", "(I)V"⟩, 36), (⟨"ScoreHandlesModel", "reckons", "(I)V"⟩, 36), (⟨"ScoreHandlesModel", "catches", "(I)V"⟩, 36), (⟨"ScoreHandlesModel", "begins", "(I)V"⟩, 36), (⟨"ScoreHandlesModel", "pass", "(II)V"⟩, 36), (⟨"ScoreHandlesModel", "giveOn", "()V"⟩, 36), (⟨"ScoreHandlesModel", "lasts", "(I)V"⟩, 36), (⟨"ScoreHandlesModel", "loops", "(I)V"⟩, 36), (⟨"ScoreHandlesModel", "handsOn", "(I)V"⟩, 36), (⟨"ScoreHandlesModel", "goesOn", "(I)V"⟩, 36)]
theorem lw_r7 : ∀ q ∈ lw_privs_7, lw_okq q := List.forall_mem_cons.mpr ⟨lw_p96, List.forall_mem_cons.mpr ⟨lw_p97, List.forall_mem_cons.mpr ⟨lw_p98, List.forall_mem_cons.mpr ⟨lw_p99, List.forall_mem_cons.mpr ⟨lw_p100, List.forall_mem_cons.mpr ⟨lw_p101, List.forall_mem_cons.mpr ⟨lw_p102, List.forall_mem_cons.mpr ⟨lw_p103, List.forall_mem_cons.mpr ⟨lw_p104, List.forall_mem_cons.mpr ⟨lw_p105, List.forall_mem_cons.mpr ⟨lw_p106, fun _ h => absurd h List.not_mem_nil⟩⟩⟩⟩⟩⟩⟩⟩⟩⟩⟩
def lw_privs : List (MethodName × Nat) := lw_privs_1 ++ (lw_privs_2 ++ (lw_privs_3 ++ (lw_privs_4 ++ (lw_privs_5 ++ (lw_privs_6 ++ (lw_privs_7))))))
def lw_tbl : List Cond := k2_sels lw_privs ++ tables_1
theorem lw_privs_ok : ∀ q ∈ lw_privs, lw_okq q := by
  show ∀ q ∈ lw_privs_1 ++ (lw_privs_2 ++ (lw_privs_3 ++ (lw_privs_4 ++ (lw_privs_5 ++ (lw_privs_6 ++ (lw_privs_7)))))), lw_okq q
  exact List.forall_mem_append.mpr ⟨lw_r1, List.forall_mem_append.mpr ⟨lw_r2, List.forall_mem_append.mpr ⟨lw_r3, List.forall_mem_append.mpr ⟨lw_r4, List.forall_mem_append.mpr ⟨lw_r5, List.forall_mem_append.mpr ⟨lw_r6, lw_r7⟩⟩⟩⟩⟩⟩
/-- the streams that the claim lets the run draw from -/
abbrev lw_cs : List Choice := [Jvm.Choice.named "NaN.bits", Jvm.Choice.named "NaN.copy"]
theorem lw_bits : nanBits ∈ lw_cs := by first | decide | exact List.mem_cons_self | simp [lw_cs, nanBits]
-- ===== end of PART A; then your names; then what follows =====
end
section
/-! names of classes, fields, methods (printed for this claim) -/
def RX0 : String := "ScoreHandles$Handle"
def TX0 : u_T := fun k => match k with
  | 0 => ("ScoreHandles$Handle", "sort", "I", true)
  | 1 => ("ScoreHandles$Handle", "a", "I", true)
  | 2 => ("ScoreHandles$Handle", "b", "I", true)
  | 3 => ("ScoreHandles$Handle", "c", "I", true)
  | 4 => ("ScoreHandles$Handle", "v", "J", false)
  | 5 => ("ScoreHandles$Handle", "type", "LScoreHandles$Type;", false)
  | _ => ("ScoreHandles$Handle", "number", "I", false)
def tyX0 : Nat → FieldType := fun k => match k with
  | 0 => .int
  | 1 => .int
  | 2 => .int
  | 3 => .int
  | 4 => .long
  | 5 => .object "ScoreHandles$Type"
  | _ => .int
abbrev wsX00 : List Cond := u_ws RX0 TX0 7
theorem nmX0 : ∀ a, a < 7 → ∀ b, b < 7 → a ≠ b → (TX0 a).2.1 ≠ (TX0 b).2.1 := by decide +kernel
theorem tyX0_ok : ∀ k, k < 7 → parseFieldDescriptor (TX0 k).2.2.1 = some (tyX0 k) := by decide +kernel
abbrev cX0_init : ByteArray := prog_2_method_1_code
def yX0_init : MethodName := ⟨RX0, "<init>", "(IIIIJ)V"⟩
abbrev cX0_settle : ByteArray := prog_2_method_2_code
def yX0_settle : MethodName := ⟨RX0, "settle", "(LScoreHandles$Type;J)V"⟩
abbrev cX0_isMadeAs : ByteArray := prog_2_method_3_code
def yX0_isMadeAs : MethodName := ⟨RX0, "isMadeAs", "(LScoreHandles$Handle;)Z"⟩
def RX1 : String := "ScoreHandles$Handles"
def TX1 : u_T := fun k => match k with
  | 0 => ("ScoreHandles$Handles", "kept", "[LScoreHandles$Handle;", true)
  | _ => ("ScoreHandles$Handles", "many", "I", false)
def tyX1 : Nat → FieldType := fun k => match k with
  | 0 => .array (.object "ScoreHandles$Handle")
  | _ => .int
abbrev wsX10 : List Cond := u_ws RX1 TX1 2
theorem nmX1 : ∀ a, a < 2 → ∀ b, b < 2 → a ≠ b → (TX1 a).2.1 ≠ (TX1 b).2.1 := by decide +kernel
theorem tyX1_ok : ∀ k, k < 2 → parseFieldDescriptor (TX1 k).2.2.1 = some (tyX1 k) := by decide +kernel
abbrev cX1_init : ByteArray := prog_3_method_1_code
def yX1_init : MethodName := ⟨RX1, "<init>", "()V"⟩
abbrev cX1_at : ByteArray := prog_3_method_2_code
def yX1_at : MethodName := ⟨RX1, "at", "(I)LScoreHandles$Handle;"⟩
abbrev cX1_typeAt : ByteArray := prog_3_method_3_code
def yX1_typeAt : MethodName := ⟨RX1, "typeAt", "(I)LScoreHandles$Type;"⟩
abbrev cX1_numberOf : ByteArray := prog_3_method_4_code
def yX1_numberOf : MethodName := ⟨RX1, "numberOf", "(LScoreHandles$Handle;)I"⟩
def RX2 : String := "ScoreHandles$Kind"
def TX2 : u_T := fun k => match k with
  | _ => ("", "", "", false)
def tyX2 : Nat → FieldType := fun k => match k with
  | _ => .int
abbrev wsX20 : List Cond := u_ws RX2 TX2 0
theorem nmX2 : ∀ a, a < 0 → ∀ b, b < 0 → a ≠ b → (TX2 a).2.1 ≠ (TX2 b).2.1 := by decide +kernel
theorem tyX2_ok : ∀ k, k < 0 → parseFieldDescriptor (TX2 k).2.2.1 = some (tyX2 k) := by decide +kernel
abbrev cX2_isKind : ByteArray := prog_4_method_2_code
def yX2_isKind : MethodName := ⟨RX2, "isKind", "(I)Z"⟩
abbrev cX2_isLane : ByteArray := prog_4_method_3_code
def yX2_isLane : MethodName := ⟨RX2, "isLane", "(I)Z"⟩
abbrev cX2_isReckoned : ByteArray := prog_4_method_4_code
def yX2_isReckoned : MethodName := ⟨RX2, "isReckoned", "(I)Z"⟩
abbrev cX2_isRow : ByteArray := prog_4_method_5_code
def yX2_isRow : MethodName := ⟨RX2, "isRow", "(I)Z"⟩
abbrev cX2_goes : ByteArray := prog_4_method_6_code
def yX2_goes : MethodName := ⟨RX2, "goes", "(II)Z"⟩
abbrev cX2_fromBits : ByteArray := prog_4_method_7_code
def yX2_fromBits : MethodName := ⟨RX2, "fromBits", "(IJ)J"⟩
abbrev cX2_widened : ByteArray := prog_4_method_8_code
def yX2_widened : MethodName := ⟨RX2, "widened", "(IIJ)J"⟩
abbrev cX2_nothing : ByteArray := prog_4_method_9_code
def yX2_nothing : MethodName := ⟨RX2, "nothing", "(I)J"⟩
def RX3 : String := "ScoreHandles$Maker"
def TX3 : u_T := fun k => match k with
  | 0 => ("ScoreHandles$Maker", "handles", "LScoreHandles$Handles;", true)
  | _ => ("ScoreHandles$Maker", "rows", "LScoreHandles$Rows;", true)
def tyX3 : Nat → FieldType := fun k => match k with
  | 0 => .object "ScoreHandles$Handles"
  | _ => .object "ScoreHandles$Rows"
abbrev wsX30 : List Cond := u_ws RX3 TX3 2
theorem nmX3 : ∀ a, a < 2 → ∀ b, b < 2 → a ≠ b → (TX3 a).2.1 ≠ (TX3 b).2.1 := by decide +kernel
theorem tyX3_ok : ∀ k, k < 2 → parseFieldDescriptor (TX3 k).2.2.1 = some (tyX3 k) := by decide +kernel
abbrev cX3_init : ByteArray := prog_5_method_1_code
def yX3_init : MethodName := ⟨RX3, "<init>", "(LScoreHandles$Handles;LScoreHandles$Rows;)V"⟩
abbrev cX3_isTold : ByteArray := prog_5_method_2_code
def yX3_isTold : MethodName := ⟨RX3, "isTold", "(LScoreHandles$Handle;)Z"⟩
abbrev cX3_isFirstTold : ByteArray := prog_5_method_3_code
def yX3_isFirstTold : MethodName := ⟨RX3, "isFirstTold", "(LScoreHandles$Handle;)Z"⟩
abbrev cX3_isSecondTold : ByteArray := prog_5_method_4_code
def yX3_isSecondTold : MethodName := ⟨RX3, "isSecondTold", "(LScoreHandles$Handle;)Z"⟩
abbrev cX3_isThirdTold : ByteArray := prog_5_method_5_code
def yX3_isThirdTold : MethodName := ⟨RX3, "isThirdTold", "(LScoreHandles$Handle;)Z"⟩
abbrev cX3_isHeld : ByteArray := prog_5_method_6_code
def yX3_isHeld : MethodName := ⟨RX3, "isHeld", "(I)Z"⟩
abbrev cX3_parametersOf : ByteArray := prog_5_method_7_code
def yX3_parametersOf : MethodName := ⟨RX3, "parametersOf", "(I)I"⟩
abbrev cX3_kindOfBits : ByteArray := prog_5_method_8_code
def yX3_kindOfBits : MethodName := ⟨RX3, "kindOfBits", "(LScoreHandles$Handle;)I"⟩
abbrev cX3_bitsOf : ByteArray := prog_5_method_9_code
def yX3_bitsOf : MethodName := ⟨RX3, "bitsOf", "(LScoreHandles$Handle;)J"⟩
abbrev cX3_typeOf : ByteArray := prog_5_method_10_code
def yX3_typeOf : MethodName := ⟨RX3, "typeOf", "(LScoreHandles$Handle;LScoreHandles$Type;)LScoreHandles$Type;"⟩
abbrev cX3_typeAlone : ByteArray := prog_5_method_11_code
def yX3_typeAlone : MethodName := ⟨RX3, "typeAlone", "(LScoreHandles$Handle;)LScoreHandles$Type;"⟩
abbrev cX3_typeOfSome : ByteArray := prog_5_method_12_code
def yX3_typeOfSome : MethodName := ⟨RX3, "typeOfSome", "(LScoreHandles$Handle;LScoreHandles$Type;)LScoreHandles$Type;"⟩
abbrev cX3_typeOfFilter : ByteArray := prog_5_method_13_code
def yX3_typeOfFilter : MethodName := ⟨RX3, "typeOfFilter", "(LScoreHandles$Type;ILScoreHandles$Type;)LScoreHandles$Type;"⟩
abbrev cX3_typeOfFold : ByteArray := prog_5_method_14_code
def yX3_typeOfFold : MethodName := ⟨RX3, "typeOfFold", "(LScoreHandles$Type;LScoreHandles$Type;)LScoreHandles$Type;"⟩
abbrev cX3_typeOfThen : ByteArray := prog_5_method_15_code
def yX3_typeOfThen : MethodName := ⟨RX3, "typeOfThen", "(LScoreHandles$Type;LScoreHandles$Type;)LScoreHandles$Type;"⟩
abbrev cX3_typeOfGuard : ByteArray := prog_5_method_16_code
def yX3_typeOfGuard : MethodName := ⟨RX3, "typeOfGuard", "(LScoreHandles$Type;LScoreHandles$Type;LScoreHandles$Type;)LScoreHandles$Type;"⟩
abbrev cX3_typeOfCatch : ByteArray := prog_5_method_17_code
def yX3_typeOfCatch : MethodName := ⟨RX3, "typeOfCatch", "(LScoreHandles$Type;LScoreHandles$Type;)LScoreHandles$Type;"⟩
abbrev cX3_typeOfLast : ByteArray := prog_5_method_18_code
def yX3_typeOfLast : MethodName := ⟨RX3, "typeOfLast", "(LScoreHandles$Type;LScoreHandles$Type;)LScoreHandles$Type;"⟩
def RX4 : String := "ScoreHandles$Real"
def TX4 : u_T := fun k => match k with
  | _ => ("", "", "", false)
def tyX4 : Nat → FieldType := fun k => match k with
  | _ => .int
abbrev wsX40 : List Cond := u_ws RX4 TX4 0
theorem nmX4 : ∀ a, a < 0 → ∀ b, b < 0 → a ≠ b → (TX4 a).2.1 ≠ (TX4 b).2.1 := by decide +kernel
theorem tyX4_ok : ∀ k, k < 0 → parseFieldDescriptor (TX4 k).2.2.1 = some (tyX4 k) := by decide +kernel
abbrev cX4_infinity : ByteArray := prog_6_method_4_code
def yX4_infinity : MethodName := ⟨RX4, "infinity", "()J"⟩
abbrev cX4_noNumber : ByteArray := prog_6_method_5_code
def yX4_noNumber : MethodName := ⟨RX4, "noNumber", "()J"⟩
abbrev cX4_magnitude : ByteArray := prog_6_method_6_code
def yX4_magnitude : MethodName := ⟨RX4, "magnitude", "(J)J"⟩
abbrev cX4_isNoNumber : ByteArray := prog_6_method_7_code
def yX4_isNoNumber : MethodName := ⟨RX4, "isNoNumber", "(J)Z"⟩
abbrev cX4_signed : ByteArray := prog_6_method_8_code
def yX4_signed : MethodName := ⟨RX4, "signed", "(ZJ)J"⟩
abbrev cX4_plain : ByteArray := prog_6_method_9_code
def yX4_plain : MethodName := ⟨RX4, "plain", "(J)J"⟩
abbrev cX4_significand : ByteArray := prog_6_method_10_code
def yX4_significand : MethodName := ⟨RX4, "significand", "(J)J"⟩
abbrev cX4_power : ByteArray := prog_6_method_11_code
def yX4_power : MethodName := ⟨RX4, "power", "(J)I"⟩
abbrev cX4_isAbove : ByteArray := prog_6_method_12_code
def yX4_isAbove : MethodName := ⟨RX4, "isAbove", "(JJ)Z"⟩
abbrev cX4_ordered : ByteArray := prog_6_method_13_code
def yX4_ordered : MethodName := ⟨RX4, "ordered", "(J)J"⟩
abbrev cX4_sumOf : ByteArray := prog_6_method_14_code
def yX4_sumOf : MethodName := ⟨RX4, "sumOf", "(JJ)J"⟩
abbrev cX4_sumBeyond : ByteArray := prog_6_method_15_code
def yX4_sumBeyond : MethodName := ⟨RX4, "sumBeyond", "(JJ)J"⟩
abbrev cX4_aligned : ByteArray := prog_6_method_16_code
def yX4_aligned : MethodName := ⟨RX4, "aligned", "(JI)J"⟩
abbrev cX4_quotientOf : ByteArray := prog_6_method_17_code
def yX4_quotientOf : MethodName := ⟨RX4, "quotientOf", "(JJ)J"⟩
abbrev cX4_divided : ByteArray := prog_6_method_18_code
def yX4_divided : MethodName := ⟨RX4, "divided", "(ZJJ)J"⟩
abbrev cX4_fromWhole : ByteArray := prog_6_method_19_code
def yX4_fromWhole : MethodName := ⟨RX4, "fromWhole", "(J)J"⟩
abbrev cX4_fromSingle : ByteArray := prog_6_method_20_code
def yX4_fromSingle : MethodName := ⟨RX4, "fromSingle", "(J)J"⟩
abbrev cX4_rounded : ByteArray := prog_6_method_21_code
def yX4_rounded : MethodName := ⟨RX4, "rounded", "(ZJI)J"⟩
abbrev cX4_roomAbove : ByteArray := prog_6_method_22_code
def yX4_roomAbove : MethodName := ⟨RX4, "roomAbove", "(JI)I"⟩
def RX5 : String := "ScoreHandles$Row"
def TX5 : u_T := fun k => match k with
  | 0 => ("ScoreHandles$Row", "lane", "I", true)
  | _ => ("ScoreHandles$Row", "items", "[J", true)
def tyX5 : Nat → FieldType := fun k => match k with
  | 0 => .int
  | _ => .array .long
abbrev wsX50 : List Cond := u_ws RX5 TX5 2
theorem nmX5 : ∀ a, a < 2 → ∀ b, b < 2 → a ≠ b → (TX5 a).2.1 ≠ (TX5 b).2.1 := by decide +kernel
theorem tyX5_ok : ∀ k, k < 2 → parseFieldDescriptor (TX5 k).2.2.1 = some (tyX5 k) := by decide +kernel
abbrev cX5_init : ByteArray := prog_7_method_1_code
def yX5_init : MethodName := ⟨RX5, "<init>", "(II)V"⟩
abbrev cX5_many : ByteArray := prog_7_method_2_code
def yX5_many : MethodName := ⟨RX5, "many", "()I"⟩
abbrev cX5_has : ByteArray := prog_7_method_3_code
def yX5_has : MethodName := ⟨RX5, "has", "(J)Z"⟩
abbrev cX5_get : ByteArray := prog_7_method_4_code
def yX5_get : MethodName := ⟨RX5, "get", "(J)J"⟩
abbrev cX5_set : ByteArray := prog_7_method_5_code
def yX5_set : MethodName := ⟨RX5, "set", "(JJ)V"⟩
def RX6 : String := "ScoreHandles$Rows"
def TX6 : u_T := fun k => match k with
  | 0 => ("ScoreHandles$Rows", "kept", "[LScoreHandles$Row;", true)
  | _ => ("ScoreHandles$Rows", "many", "I", false)
def tyX6 : Nat → FieldType := fun k => match k with
  | 0 => .array (.object "ScoreHandles$Row")
  | _ => .int
abbrev wsX60 : List Cond := u_ws RX6 TX6 2
theorem nmX6 : ∀ a, a < 2 → ∀ b, b < 2 → a ≠ b → (TX6 a).2.1 ≠ (TX6 b).2.1 := by decide +kernel
theorem tyX6_ok : ∀ k, k < 2 → parseFieldDescriptor (TX6 k).2.2.1 = some (tyX6 k) := by decide +kernel
abbrev cX6_init : ByteArray := prog_8_method_1_code
def yX6_init : MethodName := ⟨RX6, "<init>", "()V"⟩
abbrev cX6_at : ByteArray := prog_8_method_2_code
def yX6_at : MethodName := ⟨RX6, "at", "(J)LScoreHandles$Row;"⟩
abbrev cX6_added : ByteArray := prog_8_method_3_code
def yX6_added : MethodName := ⟨RX6, "added", "(II)I"⟩
abbrev cX6_mayBe : ByteArray := prog_8_method_4_code
def yX6_mayBe : MethodName := ⟨RX6, "mayBe", "(IJ)Z"⟩
def RX7 : String := "ScoreHandles$Runner"
def TX7 : u_T := fun k => match k with
  | 0 => ("ScoreHandles$Runner", "handles", "LScoreHandles$Handles;", true)
  | 1 => ("ScoreHandles$Runner", "rows", "LScoreHandles$Rows;", true)
  | 2 => ("ScoreHandles$Runner", "frames", "[J", true)
  | 3 => ("ScoreHandles$Runner", "steps", "I", false)
  | 4 => ("ScoreHandles$Runner", "failures", "I", false)
  | 5 => ("ScoreHandles$Runner", "failedLast", "I", false)
  | _ => ("ScoreHandles$Runner", "failure", "I", false)
def tyX7 : Nat → FieldType := fun k => match k with
  | 0 => .object "ScoreHandles$Handles"
  | 1 => .object "ScoreHandles$Rows"
  | 2 => .array .long
  | 3 => .int
  | 4 => .int
  | 5 => .int
  | _ => .int
abbrev wsX70 : List Cond := u_ws RX7 TX7 7
theorem nmX7 : ∀ a, a < 7 → ∀ b, b < 7 → a ≠ b → (TX7 a).2.1 ≠ (TX7 b).2.1 := by decide +kernel
theorem tyX7_ok : ∀ k, k < 7 → parseFieldDescriptor (TX7 k).2.2.1 = some (tyX7 k) := by decide +kernel
abbrev cX7_init : ByteArray := prog_9_method_1_code
def yX7_init : MethodName := ⟨RX7, "<init>", "(LScoreHandles$Handles;LScoreHandles$Rows;)V"⟩
abbrev cX7_forget : ByteArray := prog_9_method_2_code
def yX7_forget : MethodName := ⟨RX7, "forget", "()V"⟩
abbrev cX7_hand : ByteArray := prog_9_method_3_code
def yX7_hand : MethodName := ⟨RX7, "hand", "(IIJ)V"⟩
abbrev cX7_taken : ByteArray := prog_9_method_4_code
def yX7_taken : MethodName := ⟨RX7, "taken", "(II)J"⟩
abbrev cX7_slot : ByteArray := prog_9_method_5_code
def yX7_slot : MethodName := ⟨RX7, "slot", "(II)I"⟩
abbrev cX7_handOn : ByteArray := prog_9_method_6_code
def yX7_handOn : MethodName := ⟨RX7, "handOn", "(III)V"⟩
abbrev cX7_fail : ByteArray := prog_9_method_7_code
def yX7_fail : MethodName := ⟨RX7, "fail", "(LScoreHandles$Handle;I)J"⟩
abbrev cX7_spent : ByteArray := prog_9_method_8_code
def yX7_spent : MethodName := ⟨RX7, "spent", "(I)J"⟩
abbrev cX7_perform : ByteArray := prog_9_method_9_code
def yX7_perform : MethodName := ⟨RX7, "perform", "(II)J"⟩
abbrev cX7_act : ByteArray := prog_9_method_10_code
def yX7_act : MethodName := ⟨RX7, "act", "(LScoreHandles$Handle;I)J"⟩
abbrev cX7_read : ByteArray := prog_9_method_11_code
def yX7_read : MethodName := ⟨RX7, "read", "(LScoreHandles$Handle;JJ)J"⟩
abbrev cX7_write : ByteArray := prog_9_method_12_code
def yX7_write : MethodName := ⟨RX7, "write", "(LScoreHandles$Handle;JJJ)J"⟩
abbrev cX7_sizeOf : ByteArray := prog_9_method_13_code
def yX7_sizeOf : MethodName := ⟨RX7, "sizeOf", "(LScoreHandles$Handle;J)J"⟩
abbrev cX7_newRow : ByteArray := prog_9_method_14_code
def yX7_newRow : MethodName := ⟨RX7, "newRow", "(LScoreHandles$Handle;J)J"⟩
abbrev cX7_sum : ByteArray := prog_9_method_15_code
def yX7_sum : MethodName := ⟨RX7, "sum", "(IJJ)J"⟩
abbrev cX7_quotient : ByteArray := prog_9_method_16_code
def yX7_quotient : MethodName := ⟨RX7, "quotient", "(LScoreHandles$Handle;JJ)J"⟩
abbrev cX7_isAbove : ByteArray := prog_9_method_17_code
def yX7_isAbove : MethodName := ⟨RX7, "isAbove", "(IJJ)Z"⟩
abbrev cX7_arrange : ByteArray := prog_9_method_18_code
def yX7_arrange : MethodName := ⟨RX7, "arrange", "(LScoreHandles$Handle;I)J"⟩
abbrev cX7_filter : ByteArray := prog_9_method_19_code
def yX7_filter : MethodName := ⟨RX7, "filter", "(LScoreHandles$Handle;I)J"⟩
abbrev cX7_fold : ByteArray := prog_9_method_20_code
def yX7_fold : MethodName := ⟨RX7, "fold", "(LScoreHandles$Handle;I)J"⟩
abbrev cX7_thenOther : ByteArray := prog_9_method_21_code
def yX7_thenOther : MethodName := ⟨RX7, "thenOther", "(LScoreHandles$Handle;I)J"⟩
abbrev cX7_guard : ByteArray := prog_9_method_22_code
def yX7_guard : MethodName := ⟨RX7, "guard", "(LScoreHandles$Handle;I)J"⟩
abbrev cX7_catchFailure : ByteArray := prog_9_method_23_code
def yX7_catchFailure : MethodName := ⟨RX7, "catchFailure", "(LScoreHandles$Handle;I)J"⟩
abbrev cX7_doAtLast : ByteArray := prog_9_method_24_code
def yX7_doAtLast : MethodName := ⟨RX7, "doAtLast", "(LScoreHandles$Handle;I)J"⟩
abbrev cX7_loop : ByteArray := prog_9_method_25_code
def yX7_loop : MethodName := ⟨RX7, "loop", "(LScoreHandles$Handle;I)J"⟩
abbrev cX7_widen : ByteArray := prog_9_method_26_code
def yX7_widen : MethodName := ⟨RX7, "widen", "(LScoreHandles$Handle;I)J"⟩
def RX8 : String := "ScoreHandles$Sort"
def TX8 : u_T := fun k => match k with
  | _ => ("", "", "", false)
def tyX8 : Nat → FieldType := fun k => match k with
  | _ => .int
abbrev wsX80 : List Cond := u_ws RX8 TX8 0
theorem nmX8 : ∀ a, a < 0 → ∀ b, b < 0 → a ≠ b → (TX8 a).2.1 ≠ (TX8 b).2.1 := by decide +kernel
theorem tyX8_ok : ∀ k, k < 0 → parseFieldDescriptor (TX8 k).2.2.1 = some (tyX8 k) := by decide +kernel
abbrev cX8_isSort : ByteArray := prog_10_method_2_code
def yX8_isSort : MethodName := ⟨RX8, "isSort", "(I)Z"⟩
abbrev cX8_isAmong : ByteArray := prog_10_method_3_code
def yX8_isAmong : MethodName := ⟨RX8, "isAmong", "(II)Z"⟩
def RX9 : String := "ScoreHandles$Type"
def TX9 : u_T := fun k => match k with
  | 0 => ("ScoreHandles$Type", "result", "I", true)
  | 1 => ("ScoreHandles$Type", "many", "I", true)
  | _ => ("ScoreHandles$Type", "kinds", "[I", true)
def tyX9 : Nat → FieldType := fun k => match k with
  | 0 => .int
  | 1 => .int
  | _ => .array .int
abbrev wsX90 : List Cond := u_ws RX9 TX9 3
theorem nmX9 : ∀ a, a < 3 → ∀ b, b < 3 → a ≠ b → (TX9 a).2.1 ≠ (TX9 b).2.1 := by decide +kernel
theorem tyX9_ok : ∀ k, k < 3 → parseFieldDescriptor (TX9 k).2.2.1 = some (tyX9 k) := by decide +kernel
abbrev cX9_init : ByteArray := prog_11_method_1_code
def yX9_init : MethodName := ⟨RX9, "<init>", "(II[I)V"⟩
abbrev cX9_of : ByteArray := prog_11_method_2_code
def yX9_of : MethodName := ⟨RX9, "of", "(IIIII)LScoreHandles$Type;"⟩
abbrev cX9_kind : ByteArray := prog_11_method_3_code
def yX9_kind : MethodName := ⟨RX9, "kind", "(I)I"⟩
abbrev cX9_isSame : ByteArray := prog_11_method_4_code
def yX9_isSame : MethodName := ⟨RX9, "isSame", "(LScoreHandles$Type;)Z"⟩
abbrev cX9_goesTo : ByteArray := prog_11_method_5_code
def yX9_goesTo : MethodName := ⟨RX9, "goesTo", "(LScoreHandles$Type;)Z"⟩
abbrev cX9_isFirstOf : ByteArray := prog_11_method_6_code
def yX9_isFirstOf : MethodName := ⟨RX9, "isFirstOf", "(LScoreHandles$Type;II)Z"⟩
abbrev cX9_giving : ByteArray := prog_11_method_7_code
def yX9_giving : MethodName := ⟨RX9, "giving", "(I)LScoreHandles$Type;"⟩
abbrev cX9_changed : ByteArray := prog_11_method_8_code
def yX9_changed : MethodName := ⟨RX9, "changed", "(II)LScoreHandles$Type;"⟩
abbrev cX9_swapped : ByteArray := prog_11_method_9_code
def yX9_swapped : MethodName := ⟨RX9, "swapped", "(I)LScoreHandles$Type;"⟩
abbrev cX9_longer : ByteArray := prog_11_method_10_code
def yX9_longer : MethodName := ⟨RX9, "longer", "(II)LScoreHandles$Type;"⟩
abbrev cX9_withoutFirst : ByteArray := prog_11_method_11_code
def yX9_withoutFirst : MethodName := ⟨RX9, "withoutFirst", "()LScoreHandles$Type;"⟩
def RX10 : String := "ScoreHandles"
def TX10 : u_T := fun k => match k with
  | 0 => ("ScoreHandles", "rows", "LScoreHandles$Rows;", true)
  | 1 => ("ScoreHandles", "handles", "LScoreHandles$Handles;", true)
  | 2 => ("ScoreHandles", "maker", "LScoreHandles$Maker;", true)
  | 3 => ("ScoreHandles", "runner", "LScoreHandles$Runner;", true)
  | 4 => ("ScoreHandles", "numbers", "[J", true)
  | 5 => ("ScoreHandles", "atHand", "LScoreHandles$Type;", false)
  | 6 => ("ScoreHandles", "result", "J", false)
  | _ => ("ScoreHandles", "runs", "I", false)
def tyX10 : Nat → FieldType := fun k => match k with
  | 0 => .object "ScoreHandles$Rows"
  | 1 => .object "ScoreHandles$Handles"
  | 2 => .object "ScoreHandles$Maker"
  | 3 => .object "ScoreHandles$Runner"
  | 4 => .array .long
  | 5 => .object "ScoreHandles$Type"
  | 6 => .long
  | _ => .int
abbrev wsX100 : List Cond := u_ws RX10 TX10 8
theorem nmX10 : ∀ a, a < 8 → ∀ b, b < 8 → a ≠ b → (TX10 a).2.1 ≠ (TX10 b).2.1 := by decide +kernel
theorem tyX10_ok : ∀ k, k < 8 → parseFieldDescriptor (TX10 k).2.2.1 = some (tyX10 k) := by decide +kernel
abbrev cX10_init : ByteArray := prog_1_method_1_code
def yX10_init : MethodName := ⟨RX10, "<init>", "()V"⟩
abbrev cX10_row : ByteArray := prog_1_method_2_code
def yX10_row : MethodName := ⟨RX10, "row", "(II)I"⟩
abbrev cX10_put : ByteArray := prog_1_method_3_code
def yX10_put : MethodName := ⟨RX10, "put", "(IIJ)I"⟩
abbrev cX10_item : ByteArray := prog_1_method_4_code
def yX10_item : MethodName := ⟨RX10, "item", "(II)J"⟩
abbrev cX10_size : ByteArray := prog_1_method_5_code
def yX10_size : MethodName := ⟨RX10, "size", "(I)I"⟩
abbrev cX10_type : ByteArray := prog_1_method_6_code
def yX10_type : MethodName := ⟨RX10, "type", "(IIIIII)I"⟩
abbrev cX10_make : ByteArray := prog_1_method_7_code
def yX10_make : MethodName := ⟨RX10, "make", "(IIIIJ)I"⟩
abbrev cX10_told : ByteArray := prog_1_method_8_code
def yX10_told : MethodName := ⟨RX10, "told", "(II)I"⟩
abbrev cX10_fits : ByteArray := prog_1_method_9_code
def yX10_fits : MethodName := ⟨RX10, "fits", "(I)I"⟩
abbrev cX10_give : ByteArray := prog_1_method_10_code
def yX10_give : MethodName := ⟨RX10, "give", "(IJ)I"⟩
abbrev cX10_run : ByteArray := prog_1_method_11_code
def yX10_run : MethodName := ⟨RX10, "run", "(IZ)I"⟩
abbrev cX10_value : ByteArray := prog_1_method_12_code
def yX10_value : MethodName := ⟨RX10, "value", "()J"⟩
abbrev cX10_last : ByteArray := prog_1_method_13_code
def yX10_last : MethodName := ⟨RX10, "last", "(I)I"⟩
abbrev cX10_count : ByteArray := prog_1_method_14_code
def yX10_count : MethodName := ⟨RX10, "count", "(I)I"⟩
abbrev cX10_givenRowsAreThere : ByteArray := prog_1_method_15_code
def yX10_givenRowsAreThere : MethodName := ⟨RX10, "givenRowsAreThere", "()Z"⟩
abbrev cX10_handOverNumbers : ByteArray := prog_1_method_16_code
def yX10_handOverNumbers : MethodName := ⟨RX10, "handOverNumbers", "(LScoreHandles$Type;)V"⟩
def RX11 : String := "ScoreHandlesModel"
def TX11 : u_T := fun k => match k with
  | 0 => ("ScoreHandlesModel", "rows", "I", false)
  | 1 => ("ScoreHandlesModel", "laneOf", "[I", true)
  | 2 => ("ScoreHandlesModel", "sizeOf", "[I", true)
  | 3 => ("ScoreHandlesModel", "items", "[J", true)
  | 4 => ("ScoreHandlesModel", "handResult", "I", false)
  | 5 => ("ScoreHandlesModel", "handMany", "I", false)
  | 6 => ("ScoreHandlesModel", "handKind", "[I", true)
  | 7 => ("ScoreHandlesModel", "given", "[J", true)
  | 8 => ("ScoreHandlesModel", "handles", "I", false)
  | 9 => ("ScoreHandlesModel", "sortOf", "[I", true)
  | 10 => ("ScoreHandlesModel", "aOf", "[I", true)
  | 11 => ("ScoreHandlesModel", "bOf", "[I", true)
  | 12 => ("ScoreHandlesModel", "cOf", "[I", true)
  | 13 => ("ScoreHandlesModel", "vOf", "[J", true)
  | 14 => ("ScoreHandlesModel", "manyOf", "[I", true)
  | 15 => ("ScoreHandlesModel", "kindOf", "[I", true)
  | 16 => ("ScoreHandlesModel", "resultOf", "[I", true)
  | 17 => ("ScoreHandlesModel", "madeA", "I", false)
  | 18 => ("ScoreHandlesModel", "madeB", "I", false)
  | 19 => ("ScoreHandlesModel", "madeC", "I", false)
  | 20 => ("ScoreHandlesModel", "madeV", "J", false)
  | 21 => ("ScoreHandlesModel", "depth", "I", false)
  | 22 => ("ScoreHandlesModel", "frame", "[I", true)
  | 23 => ("ScoreHandlesModel", "phase", "[I", true)
  | 24 => ("ScoreHandlesModel", "par", "[J", true)
  | 25 => ("ScoreHandlesModel", "held", "[J", true)
  | 26 => ("ScoreHandlesModel", "turn", "[I", true)
  | 27 => ("ScoreHandlesModel", "saved", "[I", true)
  | 28 => ("ScoreHandlesModel", "back", "J", false)
  | 29 => ("ScoreHandlesModel", "failure", "I", false)
  | 30 => ("ScoreHandlesModel", "steps", "I", false)
  | 31 => ("ScoreHandlesModel", "failures", "I", false)
  | 32 => ("ScoreHandlesModel", "blamed", "I", false)
  | 33 => ("ScoreHandlesModel", "runs", "I", false)
  | 34 => ("ScoreHandlesModel", "value", "J", false)
  | _ => ("ScoreHandlesModel", "hand", "[J", true)
def tyX11 : Nat → FieldType := fun k => match k with
  | 0 => .int
  | 1 => .array .int
  | 2 => .array .int
  | 3 => .array .long
  | 4 => .int
  | 5 => .int
  | 6 => .array .int
  | 7 => .array .long
  | 8 => .int
  | 9 => .array .int
  | 10 => .array .int
  | 11 => .array .int
  | 12 => .array .int
  | 13 => .array .long
  | 14 => .array .int
  | 15 => .array .int
  | 16 => .array .int
  | 17 => .int
  | 18 => .int
  | 19 => .int
  | 20 => .long
  | 21 => .int
  | 22 => .array .int
  | 23 => .array .int
  | 24 => .array .long
  | 25 => .array .long
  | 26 => .array .int
  | 27 => .array .int
  | 28 => .long
  | 29 => .int
  | 30 => .int
  | 31 => .int
  | 32 => .int
  | 33 => .int
  | 34 => .long
  | _ => .array .long
abbrev wsX110 : List Cond := u_ws RX11 TX11 36
theorem nmX11 : ∀ a, a < 36 → ∀ b, b < 36 → a ≠ b → (TX11 a).2.1 ≠ (TX11 b).2.1 := by decide +kernel
theorem tyX11_ok : ∀ k, k < 36 → parseFieldDescriptor (TX11 k).2.2.1 = some (tyX11 k) := by decide +kernel
abbrev cX11_init : ByteArray := prog_13_method_1_code
def yX11_init : MethodName := ⟨RX11, "<init>", "()V"⟩
abbrev cX11_in : ByteArray := prog_13_method_2_code
def yX11_in : MethodName := ⟨RX11, "in", "(JJJ)Z"⟩
abbrev cX11_row : ByteArray := prog_13_method_3_code
def yX11_row : MethodName := ⟨RX11, "row", "(II)I"⟩
abbrev cX11_freshRow : ByteArray := prog_13_method_4_code
def yX11_freshRow : MethodName := ⟨RX11, "freshRow", "(II)I"⟩
abbrev cX11_isRow : ByteArray := prog_13_method_5_code
def yX11_isRow : MethodName := ⟨RX11, "isRow", "(J)Z"⟩
abbrev cX11_isItem : ByteArray := prog_13_method_6_code
def yX11_isItem : MethodName := ⟨RX11, "isItem", "(JJ)Z"⟩
abbrev cX11_put : ByteArray := prog_13_method_7_code
def yX11_put : MethodName := ⟨RX11, "put", "(IIJ)I"⟩
abbrev cX11_item : ByteArray := prog_13_method_8_code
def yX11_item : MethodName := ⟨RX11, "item", "(II)J"⟩
abbrev cX11_size : ByteArray := prog_13_method_9_code
def yX11_size : MethodName := ⟨RX11, "size", "(I)I"⟩
abbrev cX11_cast : ByteArray := prog_13_method_10_code
def yX11_cast : MethodName := ⟨RX11, "cast", "(JI)J"⟩
abbrev cX11_goes : ByteArray := prog_13_method_11_code
def yX11_goes : MethodName := ⟨RX11, "goes", "(II)Z"⟩
abbrev cX11_floatOf : ByteArray := prog_13_method_12_code
def yX11_floatOf : MethodName := ⟨RX11, "floatOf", "(J)F"⟩
abbrev cX11_doubleOf : ByteArray := prog_13_method_13_code
def yX11_doubleOf : MethodName := ⟨RX11, "doubleOf", "(J)D"⟩
abbrev cX11_sizeBits : ByteArray := prog_13_method_14_code
def yX11_sizeBits : MethodName := ⟨RX11, "sizeBits", "(JI)J"⟩
abbrev cX11_most : ByteArray := prog_13_method_15_code
def yX11_most : MethodName := ⟨RX11, "most", "(I)J"⟩
abbrev cX11_none : ByteArray := prog_13_method_16_code
def yX11_none : MethodName := ⟨RX11, "none", "(I)J"⟩
abbrev cX11_givesNone : ByteArray := prog_13_method_17_code
def yX11_givesNone : MethodName := ⟨RX11, "givesNone", "(JJIZ)Z"⟩
abbrev cX11_widen : ByteArray := prog_13_method_18_code
def yX11_widen : MethodName := ⟨RX11, "widen", "(JII)J"⟩
abbrev cX11_isKind : ByteArray := prog_13_method_19_code
def yX11_isKind : MethodName := ⟨RX11, "isKind", "(I)Z"⟩
abbrev cX11_isLane : ByteArray := prog_13_method_20_code
def yX11_isLane : MethodName := ⟨RX11, "isLane", "(I)Z"⟩
abbrev cX11_type : ByteArray := prog_13_method_21_code
def yX11_type : MethodName := ⟨RX11, "type", "(IIIIII)I"⟩
abbrev cX11_isValue : ByteArray := prog_13_method_22_code
def yX11_isValue : MethodName := ⟨RX11, "isValue", "(IJ)Z"⟩
abbrev cX11_isHandle : ByteArray := prog_13_method_23_code
def yX11_isHandle : MethodName := ⟨RX11, "isHandle", "(I)Z"⟩
abbrev cX11_kind : ByteArray := prog_13_method_24_code
def yX11_kind : MethodName := ⟨RX11, "kind", "(II)I"⟩
abbrev cX11_takes : ByteArray := prog_13_method_25_code
def yX11_takes : MethodName := ⟨RX11, "takes", "(I)V"⟩
abbrev cX11_gives : ByteArray := prog_13_method_26_code
def yX11_gives : MethodName := ⟨RX11, "gives", "(I)V"⟩
abbrev cX11_takesOf : ByteArray := prog_13_method_27_code
def yX11_takesOf : MethodName := ⟨RX11, "takesOf", "(II)V"⟩
abbrev cX11_isFirst : ByteArray := prog_13_method_28_code
def yX11_isFirst : MethodName := ⟨RX11, "isFirst", "(IIII)Z"⟩
abbrev cX11_isAlike : ByteArray := prog_13_method_29_code
def yX11_isAlike : MethodName := ⟨RX11, "isAlike", "(II)Z"⟩
abbrev cX11_makeFirst : ByteArray := prog_13_method_30_code
def yX11_makeFirst : MethodName := ⟨RX11, "makeFirst", "(IIIJ)I"⟩
abbrev cX11_makeOne : ByteArray := prog_13_method_31_code
def yX11_makeOne : MethodName := ⟨RX11, "makeOne", "(IIIIJ)I"⟩
abbrev cX11_makeTwo : ByteArray := prog_13_method_32_code
def yX11_makeTwo : MethodName := ⟨RX11, "makeTwo", "(III)I"⟩
abbrev cX11_makeFilter : ByteArray := prog_13_method_33_code
def yX11_makeFilter : MethodName := ⟨RX11, "makeFilter", "(III)I"⟩
abbrev cX11_makeGuard : ByteArray := prog_13_method_34_code
def yX11_makeGuard : MethodName := ⟨RX11, "makeGuard", "(III)I"⟩
abbrev cX11_makeCatch : ByteArray := prog_13_method_35_code
def yX11_makeCatch : MethodName := ⟨RX11, "makeCatch", "(III)I"⟩
abbrev cX11_isOne : ByteArray := prog_13_method_36_code
def yX11_isOne : MethodName := ⟨RX11, "isOne", "(II)Z"⟩
abbrev cX11_make : ByteArray := prog_13_method_37_code
def yX11_make : MethodName := ⟨RX11, "make", "(IIIIJ)I"⟩
abbrev cX11_told : ByteArray := prog_13_method_38_code
def yX11_told : MethodName := ⟨RX11, "told", "(II)I"⟩
abbrev cX11_handGoes : ByteArray := prog_13_method_39_code
def yX11_handGoes : MethodName := ⟨RX11, "handGoes", "(I)Z"⟩
abbrev cX11_isHand : ByteArray := prog_13_method_40_code
def yX11_isHand : MethodName := ⟨RX11, "isHand", "(I)Z"⟩
abbrev cX11_fits : ByteArray := prog_13_method_41_code
def yX11_fits : MethodName := ⟨RX11, "fits", "(I)I"⟩
abbrev cX11_give : ByteArray := prog_13_method_42_code
def yX11_give : MethodName := ⟨RX11, "give", "(IJ)I"⟩
abbrev cX11_begin : ByteArray := prog_13_method_43_code
def yX11_begin : MethodName := ⟨RX11, "begin", "(I)V"⟩
abbrev cX11_end : ByteArray := prog_13_method_44_code
def yX11_end : MethodName := ⟨RX11, "end", "(J)V"⟩
abbrev cX11_fail : ByteArray := prog_13_method_45_code
def yX11_fail : MethodName := ⟨RX11, "fail", "(I)V"⟩
abbrev cX11_pass : ByteArray := prog_13_method_46_code
def yX11_pass : MethodName := ⟨RX11, "pass", "(II)V"⟩
abbrev cX11_reads : ByteArray := prog_13_method_47_code
def yX11_reads : MethodName := ⟨RX11, "reads", "(IZ)V"⟩
abbrev cX11_reckons : ByteArray := prog_13_method_48_code
def yX11_reckons : MethodName := ⟨RX11, "reckons", "(I)V"⟩
abbrev cX11_acts : ByteArray := prog_13_method_49_code
def yX11_acts : MethodName := ⟨RX11, "acts", "(I)V"⟩
abbrev cX11_giveOn : ByteArray := prog_13_method_50_code
def yX11_giveOn : MethodName := ⟨RX11, "giveOn", "()V"⟩
abbrev cX11_handsOn : ByteArray := prog_13_method_51_code
def yX11_handsOn : MethodName := ⟨RX11, "handsOn", "(I)V"⟩
abbrev cX11_goesOn : ByteArray := prog_13_method_52_code
def yX11_goesOn : MethodName := ⟨RX11, "goesOn", "(I)V"⟩
abbrev cX11_begins : ByteArray := prog_13_method_53_code
def yX11_begins : MethodName := ⟨RX11, "begins", "(I)V"⟩
abbrev cX11_catches : ByteArray := prog_13_method_54_code
def yX11_catches : MethodName := ⟨RX11, "catches", "(I)V"⟩
abbrev cX11_lasts : ByteArray := prog_13_method_55_code
def yX11_lasts : MethodName := ⟨RX11, "lasts", "(I)V"⟩
abbrev cX11_loops : ByteArray := prog_13_method_56_code
def yX11_loops : MethodName := ⟨RX11, "loops", "(I)V"⟩
abbrev cX11_one : ByteArray := prog_13_method_57_code
def yX11_one : MethodName := ⟨RX11, "one", "()V"⟩
abbrev cX11_run : ByteArray := prog_13_method_58_code
def yX11_run : MethodName := ⟨RX11, "run", "(IZ)I"⟩
abbrev cX11_value : ByteArray := prog_13_method_59_code
def yX11_value : MethodName := ⟨RX11, "value", "()J"⟩
abbrev cX11_last : ByteArray := prog_13_method_60_code
def yX11_last : MethodName := ⟨RX11, "last", "(I)I"⟩
abbrev cX11_count : ByteArray := prog_13_method_61_code
def yX11_count : MethodName := ⟨RX11, "count", "(I)I"⟩
def RJxe99ae : String := "java/lang/Double"
def TJxe99ae : u_T := fun k => match k with
  | _ => ("", "", "", false)
def tyJxe99ae : Nat → FieldType := fun k => match k with
  | _ => .int
abbrev wsJxe99ae0 : List Cond := u_ws RJxe99ae TJxe99ae 0
theorem nmJxe99ae : ∀ a, a < 0 → ∀ b, b < 0 → a ≠ b → (TJxe99ae a).2.1 ≠ (TJxe99ae b).2.1 := by decide +kernel
theorem tyJxe99ae_ok : ∀ k, k < 0 → parseFieldDescriptor (TJxe99ae k).2.2.1 = some (tyJxe99ae k) := by decide +kernel
abbrev cJxe99ae_isNaN_b9ae7 : ByteArray := prog_14_method_6_code
def yJxe99ae_isNaN_b9ae7 : MethodName := ⟨RJxe99ae, "isNaN", "(D)Z"⟩
abbrev cJxe99ae_doubleToLongBits_ccdee : ByteArray := prog_14_method_23_code
def yJxe99ae_doubleToLongBits_ccdee : MethodName := ⟨RJxe99ae, "doubleToLongBits", "(D)J"⟩
def RJx29ce0 : String := "java/lang/Enum"
def TJx29ce0 : u_T := fun k => match k with
  | _ => ("", "", "", false)
def tyJx29ce0 : Nat → FieldType := fun k => match k with
  | _ => .int
abbrev wsJx29ce00 : List Cond := u_ws RJx29ce0 TJx29ce0 0
theorem nmJx29ce0 : ∀ a, a < 0 → ∀ b, b < 0 → a ≠ b → (TJx29ce0 a).2.1 ≠ (TJx29ce0 b).2.1 := by decide +kernel
theorem tyJx29ce0_ok : ∀ k, k < 0 → parseFieldDescriptor (TJx29ce0 k).2.2.1 = some (tyJx29ce0 k) := by decide +kernel
def RJxf58ca : String := "java/lang/Float"
def TJxf58ca : u_T := fun k => match k with
  | _ => ("", "", "", false)
def tyJxf58ca : Nat → FieldType := fun k => match k with
  | _ => .int
abbrev wsJxf58ca0 : List Cond := u_ws RJxf58ca TJxf58ca 0
theorem nmJxf58ca : ∀ a, a < 0 → ∀ b, b < 0 → a ≠ b → (TJxf58ca a).2.1 ≠ (TJxf58ca b).2.1 := by decide +kernel
theorem tyJxf58ca_ok : ∀ k, k < 0 → parseFieldDescriptor (TJxf58ca k).2.2.1 = some (tyJxf58ca k) := by decide +kernel
abbrev cJxf58ca_isNaN_12338 : ByteArray := prog_16_method_6_code
def yJxf58ca_isNaN_12338 : MethodName := ⟨RJxf58ca, "isNaN", "(F)Z"⟩
abbrev cJxf58ca_floatToIntBits_5c35a : ByteArray := prog_16_method_24_code
def yJxf58ca_floatToIntBits_5c35a : MethodName := ⟨RJxf58ca, "floatToIntBits", "(F)I"⟩
def RJ9 : String := "java/lang/Math"
def TJ9 : u_T := fun k => match k with
  | _ => ("", "", "", false)
def tyJ9 : Nat → FieldType := fun k => match k with
  | _ => .int
abbrev wsJ90 : List Cond := u_ws RJ9 TJ9 0
theorem nmJ9 : ∀ a, a < 0 → ∀ b, b < 0 → a ≠ b → (TJ9 a).2.1 ≠ (TJ9 b).2.1 := by decide +kernel
theorem tyJ9_ok : ∀ k, k < 0 → parseFieldDescriptor (TJ9 k).2.2.1 = some (tyJ9 k) := by decide +kernel
abbrev cJ9_abs_067f4 : ByteArray := prog_17_method_61_code
def yJ9_abs_067f4 : MethodName := ⟨RJ9, "abs", "(J)J"⟩
abbrev cJ9_max_7cf53 : ByteArray := prog_17_method_65_code
def yJ9_max_7cf53 : MethodName := ⟨RJ9, "max", "(II)I"⟩
abbrev cJ9_min_7cf53 : ByteArray := prog_17_method_69_code
def yJ9_min_7cf53 : MethodName := ⟨RJ9, "min", "(II)I"⟩
abbrev cJ9_min_f86c9 : ByteArray := prog_17_method_70_code
def yJ9_min_f86c9 : MethodName := ⟨RJ9, "min", "(JJ)J"⟩
def RL : String := "ScoreHandlesLaw"
abbrev cL_law : ByteArray := code
def yL_law : MethodName := ⟨RL, "law", "([I)Z"⟩
abbrev vwCl : List vw_C := [(RX0, TX0, 7), (RX1, TX1, 2), (RX3, TX3, 2), (RX4, TX4, 0), (RX5, TX5, 2), (RX6, TX6, 2), (RX7, TX7, 7), (RX9, TX9, 3), (RX10, TX10, 8), (RX11, TX11, 36)]
end
section
/-! words: one list for all methods; the words of the nest apart -/
def lw_all : List Cond := lw_tbl.filter goodWord
theorem lw_all_sub {w : Cond} (h : w ∈ lw_all) : w ∈ lw_tbl := (List.mem_filter.mp h).1
theorem lw_all_good {w : Cond} (h : w ∈ lw_all) : (w.onTables && w.keeps) = true ∨ ∃ ty, w = .arrayClass ty := good_of_word (List.mem_filter.mp h).2
theorem lw_in {w : Cond} (i : Nat) (h : tables_1[i]? = some w) (hg : goodWord w = true) : w ∈ lw_all := List.mem_filter.mpr ⟨List.mem_append_right _ (List.mem_of_getElem? h), hg⟩
theorem lw_inS {q : MethodName × Nat} (i : Nat) (h : lw_privs[i]? = some q) (hg : goodWord (Cond.selects q.1.cls q.1 q.1) = true) : Cond.selects q.1.cls q.1 q.1 ∈ lw_all :=
  List.mem_filter.mpr ⟨List.mem_append_left _ (List.mem_map.mpr ⟨q, List.mem_of_getElem? h, rfl⟩), hg⟩
def lw_isNest : Cond → Bool
  | .fieldLinkNest .. => true
  | .methodLinkNest .. => true
  | _ => false
def lw_nest : List Cond := tables_1.filter lw_isNest
theorem lw_inN {w : Cond} (i : Nat) (h : tables_1[i]? = some w) (hg : lw_isNest w = true) : w ∈ lw_nest := List.mem_filter.mpr ⟨List.mem_of_getElem? h, hg⟩
theorem qw0 : (Jvm.Cond.initialized "ScoreHandlesLaw") ∈ lw_all := lw_in 0 (by decide +kernel) rfl
theorem qw1 : (Jvm.Cond.initialized "ScoreHandles") ∈ lw_all := lw_in 1 (by decide +kernel) rfl
theorem qw2 : (Jvm.Cond.initialized "ScoreHandles$Rows") ∈ lw_all := lw_in 2 (by decide +kernel) rfl
theorem qw3 : (Jvm.Cond.initialized "ScoreHandles$Handles") ∈ lw_all := lw_in 3 (by decide +kernel) rfl
theorem qw4 : (Jvm.Cond.initialized "ScoreHandles$Maker") ∈ lw_all := lw_in 4 (by decide +kernel) rfl
theorem qw5 : (Jvm.Cond.initialized "ScoreHandles$Runner") ∈ lw_all := lw_in 5 (by decide +kernel) rfl
theorem qw6 : (Jvm.Cond.initialized "ScoreHandles$Type") ∈ lw_all := lw_in 6 (by decide +kernel) rfl
theorem qw7 : (Jvm.Cond.initialized "ScoreHandlesModel") ∈ lw_all := lw_in 7 (by decide +kernel) rfl
theorem qw8 : (Jvm.Cond.initialized "ScoreHandles$Kind") ∈ lw_all := lw_in 8 (by decide +kernel) rfl
theorem qw9 : (Jvm.Cond.initialized "ScoreHandles$Row") ∈ lw_all := lw_in 9 (by decide +kernel) rfl
theorem qw10 : (Jvm.Cond.initialized "java/lang/Math") ∈ lw_all := lw_in 10 (by decide +kernel) rfl
theorem qw11 : (Jvm.Cond.initialized "java/lang/Enum") ∈ lw_all := lw_in 11 (by decide +kernel) rfl
theorem qw12 : (Jvm.Cond.initialized "ScoreHandles$Real") ∈ lw_all := lw_in 12 (by decide +kernel) rfl
theorem qw13 : (Jvm.Cond.initialized "ScoreHandles$Handle") ∈ lw_all := lw_in 13 (by decide +kernel) rfl
theorem qw14 : (Jvm.Cond.initialized "ScoreHandles$Sort") ∈ lw_all := lw_in 14 (by decide +kernel) rfl
theorem qw15 : (Jvm.Cond.initialized "java/lang/Float") ∈ lw_all := lw_in 15 (by decide +kernel) rfl
theorem qw16 : (Jvm.Cond.initialized "java/lang/Double") ∈ lw_all := lw_in 16 (by decide +kernel) rfl
theorem qw17 : (Jvm.Cond.classLink "ScoreHandlesLaw" (7 : Nat) "ScoreHandles") ∈ lw_all := lw_in 17 (by decide +kernel) rfl
theorem qw18 : (Jvm.Cond.instantiable "ScoreHandles" (8 : Nat)) ∈ lw_all := lw_in 18 (by decide +kernel) rfl
theorem qw19 : (Jvm.Cond.methodLink "ScoreHandlesLaw" (9 : Nat) ({ cls := "ScoreHandles", name := "<init>", desc := "()V" } : Jvm.MethodName)) ∈ lw_all := lw_in 19 (by decide +kernel) rfl
theorem qw20 : (Jvm.Cond.instanceMethod ({ cls := "ScoreHandles", name := "<init>", desc := "()V" } : Jvm.MethodName)) ∈ lw_all := lw_in 20 (by decide +kernel) rfl
theorem qw21 : (Jvm.Cond.code ({ cls := "ScoreHandles", name := "<init>", desc := "()V" } : Jvm.MethodName) prog_1_method_1_code (3 : Nat) (Option.none : Option Jvm.ClassFile.FieldType)) ∈ lw_all := lw_in 21 (by decide +kernel) rfl
theorem qw22 : (Jvm.Cond.methodLink "ScoreHandles" (1 : Nat) ({ cls := "java/lang/Object", name := "<init>", desc := "()V" } : Jvm.MethodName)) ∈ lw_all := lw_in 22 (by decide +kernel) rfl
theorem qw23 : (Jvm.Cond.instanceMethod ({ cls := "java/lang/Object", name := "<init>", desc := "()V" } : Jvm.MethodName)) ∈ lw_all := lw_in 23 (by decide +kernel) rfl
theorem qw24 : (Jvm.Cond.code ({ cls := "java/lang/Object", name := "<init>", desc := "()V" } : Jvm.MethodName) object_method_1_code (1 : Nat) (Option.none : Option Jvm.ClassFile.FieldType)) ∈ lw_all := lw_in 24 (by decide +kernel) rfl
theorem qw25 : (Jvm.Cond.classLink "ScoreHandles" (7 : Nat) "ScoreHandles$Rows") ∈ lw_all := lw_in 25 (by decide +kernel) rfl
theorem qw26 : (Jvm.Cond.instantiable "ScoreHandles$Rows" (2 : Nat)) ∈ lw_all := lw_in 26 (by decide +kernel) rfl
theorem qn27 : (Jvm.Cond.methodLinkNest "ScoreHandles" (9 : Nat) ({ cls := "ScoreHandles$Rows", name := "<init>", desc := "()V" } : Jvm.MethodName) "ScoreHandles") ∈ lw_nest := lw_inN 27 (by decide +kernel) rfl
theorem qw28 : (Jvm.Cond.instanceMethod ({ cls := "ScoreHandles$Rows", name := "<init>", desc := "()V" } : Jvm.MethodName)) ∈ lw_all := lw_in 28 (by decide +kernel) rfl
theorem qw29 : (Jvm.Cond.code ({ cls := "ScoreHandles$Rows", name := "<init>", desc := "()V" } : Jvm.MethodName) prog_8_method_1_code (1 : Nat) (Option.none : Option Jvm.ClassFile.FieldType)) ∈ lw_all := lw_in 29 (by decide +kernel) rfl
theorem qw30 : (Jvm.Cond.methodLink "ScoreHandles$Rows" (3 : Nat) ({ cls := "java/lang/Object", name := "<init>", desc := "()V" } : Jvm.MethodName)) ∈ lw_all := lw_in 30 (by decide +kernel) rfl
theorem qw31 : (Jvm.Cond.classLink "ScoreHandles$Rows" (9 : Nat) "ScoreHandles$Row") ∈ lw_all := lw_in 31 (by decide +kernel) rfl
theorem qw33 : (Jvm.Cond.fieldLink "ScoreHandles$Rows" (11 : Nat) "ScoreHandles$Rows" "kept" "[LScoreHandles$Row;") ∈ lw_all := lw_in 33 (by decide +kernel) rfl
theorem qw34 : (Jvm.Cond.fieldLink "ScoreHandles$Rows" (17 : Nat) "ScoreHandles$Rows" "many" "I") ∈ lw_all := lw_in 34 (by decide +kernel) rfl
theorem qn35 : (Jvm.Cond.fieldLinkNest "ScoreHandles" (182 : Nat) "ScoreHandles$Rows" "many" "I" "ScoreHandles") ∈ lw_nest := lw_inN 35 (by decide +kernel) rfl
theorem qw36 : (Jvm.Cond.laysFinal "ScoreHandles$Rows" "ScoreHandles$Rows" "kept" "[LScoreHandles$Row;") ∈ lw_all := lw_in 36 (by decide +kernel) rfl
theorem qw38 : (Jvm.Cond.lays "ScoreHandles$Rows" "ScoreHandles$Rows" "many" "I") ∈ lw_all := lw_in 38 (by decide +kernel) rfl
theorem qw41 : (Jvm.Cond.classLink "ScoreHandles" (10 : Nat) "ScoreHandles$Handles") ∈ lw_all := lw_in 41 (by decide +kernel) rfl
theorem qw42 : (Jvm.Cond.instantiable "ScoreHandles$Handles" (2 : Nat)) ∈ lw_all := lw_in 42 (by decide +kernel) rfl
theorem qn43 : (Jvm.Cond.methodLinkNest "ScoreHandles" (12 : Nat) ({ cls := "ScoreHandles$Handles", name := "<init>", desc := "()V" } : Jvm.MethodName) "ScoreHandles") ∈ lw_nest := lw_inN 43 (by decide +kernel) rfl
theorem qw44 : (Jvm.Cond.instanceMethod ({ cls := "ScoreHandles$Handles", name := "<init>", desc := "()V" } : Jvm.MethodName)) ∈ lw_all := lw_in 44 (by decide +kernel) rfl
theorem qw45 : (Jvm.Cond.code ({ cls := "ScoreHandles$Handles", name := "<init>", desc := "()V" } : Jvm.MethodName) prog_3_method_1_code (1 : Nat) (Option.none : Option Jvm.ClassFile.FieldType)) ∈ lw_all := lw_in 45 (by decide +kernel) rfl
theorem qw46 : (Jvm.Cond.methodLink "ScoreHandles$Handles" (3 : Nat) ({ cls := "java/lang/Object", name := "<init>", desc := "()V" } : Jvm.MethodName)) ∈ lw_all := lw_in 46 (by decide +kernel) rfl
theorem qw47 : (Jvm.Cond.classLink "ScoreHandles$Handles" (9 : Nat) "ScoreHandles$Handle") ∈ lw_all := lw_in 47 (by decide +kernel) rfl
theorem qw49 : (Jvm.Cond.fieldLink "ScoreHandles$Handles" (11 : Nat) "ScoreHandles$Handles" "kept" "[LScoreHandles$Handle;") ∈ lw_all := lw_in 49 (by decide +kernel) rfl
theorem qw50 : (Jvm.Cond.fieldLink "ScoreHandles$Handles" (17 : Nat) "ScoreHandles$Handles" "many" "I") ∈ lw_all := lw_in 50 (by decide +kernel) rfl
theorem qn51 : (Jvm.Cond.fieldLinkNest "ScoreHandles" (183 : Nat) "ScoreHandles$Handles" "many" "I" "ScoreHandles") ∈ lw_nest := lw_inN 51 (by decide +kernel) rfl
theorem qw52 : (Jvm.Cond.laysFinal "ScoreHandles$Handles" "ScoreHandles$Handles" "kept" "[LScoreHandles$Handle;") ∈ lw_all := lw_in 52 (by decide +kernel) rfl
theorem qw54 : (Jvm.Cond.lays "ScoreHandles$Handles" "ScoreHandles$Handles" "many" "I") ∈ lw_all := lw_in 54 (by decide +kernel) rfl
theorem qw57 : (Jvm.Cond.classLink "ScoreHandles" (23 : Nat) "ScoreHandles$Maker") ∈ lw_all := lw_in 57 (by decide +kernel) rfl
theorem qw58 : (Jvm.Cond.instantiable "ScoreHandles$Maker" (2 : Nat)) ∈ lw_all := lw_in 58 (by decide +kernel) rfl
theorem qn59 : (Jvm.Cond.methodLinkNest "ScoreHandles" (25 : Nat) ({ cls := "ScoreHandles$Maker", name := "<init>", desc := "(LScoreHandles$Handles;LScoreHandles$Rows;)V" } : Jvm.MethodName) "ScoreHandles") ∈ lw_nest := lw_inN 59 (by decide +kernel) rfl
theorem qw60 : (Jvm.Cond.instanceMethod ({ cls := "ScoreHandles$Maker", name := "<init>", desc := "(LScoreHandles$Handles;LScoreHandles$Rows;)V" } : Jvm.MethodName)) ∈ lw_all := lw_in 60 (by decide +kernel) rfl
theorem qw61 : (Jvm.Cond.code ({ cls := "ScoreHandles$Maker", name := "<init>", desc := "(LScoreHandles$Handles;LScoreHandles$Rows;)V" } : Jvm.MethodName) prog_5_method_1_code (3 : Nat) (Option.none : Option Jvm.ClassFile.FieldType)) ∈ lw_all := lw_in 61 (by decide +kernel) rfl
theorem qw62 : (Jvm.Cond.methodLink "ScoreHandles$Maker" (3 : Nat) ({ cls := "java/lang/Object", name := "<init>", desc := "()V" } : Jvm.MethodName)) ∈ lw_all := lw_in 62 (by decide +kernel) rfl
theorem qw63 : (Jvm.Cond.fieldLink "ScoreHandles$Maker" (9 : Nat) "ScoreHandles$Maker" "handles" "LScoreHandles$Handles;") ∈ lw_all := lw_in 63 (by decide +kernel) rfl
theorem qw64 : (Jvm.Cond.fieldLink "ScoreHandles$Maker" (15 : Nat) "ScoreHandles$Maker" "rows" "LScoreHandles$Rows;") ∈ lw_all := lw_in 64 (by decide +kernel) rfl
theorem qw65 : (Jvm.Cond.laysFinal "ScoreHandles$Maker" "ScoreHandles$Maker" "handles" "LScoreHandles$Handles;") ∈ lw_all := lw_in 65 (by decide +kernel) rfl
theorem qw67 : (Jvm.Cond.laysFinal "ScoreHandles$Maker" "ScoreHandles$Maker" "rows" "LScoreHandles$Rows;") ∈ lw_all := lw_in 67 (by decide +kernel) rfl
theorem qw70 : (Jvm.Cond.classLink "ScoreHandles" (32 : Nat) "ScoreHandles$Runner") ∈ lw_all := lw_in 70 (by decide +kernel) rfl
theorem qw71 : (Jvm.Cond.instantiable "ScoreHandles$Runner" (7 : Nat)) ∈ lw_all := lw_in 71 (by decide +kernel) rfl
theorem qn72 : (Jvm.Cond.methodLinkNest "ScoreHandles" (34 : Nat) ({ cls := "ScoreHandles$Runner", name := "<init>", desc := "(LScoreHandles$Handles;LScoreHandles$Rows;)V" } : Jvm.MethodName) "ScoreHandles") ∈ lw_nest := lw_inN 72 (by decide +kernel) rfl
theorem qw73 : (Jvm.Cond.instanceMethod ({ cls := "ScoreHandles$Runner", name := "<init>", desc := "(LScoreHandles$Handles;LScoreHandles$Rows;)V" } : Jvm.MethodName)) ∈ lw_all := lw_in 73 (by decide +kernel) rfl
theorem qw74 : (Jvm.Cond.code ({ cls := "ScoreHandles$Runner", name := "<init>", desc := "(LScoreHandles$Handles;LScoreHandles$Rows;)V" } : Jvm.MethodName) prog_9_method_1_code (3 : Nat) (Option.none : Option Jvm.ClassFile.FieldType)) ∈ lw_all := lw_in 74 (by decide +kernel) rfl
theorem qw75 : (Jvm.Cond.methodLink "ScoreHandles$Runner" (3 : Nat) ({ cls := "java/lang/Object", name := "<init>", desc := "()V" } : Jvm.MethodName)) ∈ lw_all := lw_in 75 (by decide +kernel) rfl
theorem qw76 : (Jvm.Cond.fieldLink "ScoreHandles$Runner" (9 : Nat) "ScoreHandles$Runner" "handles" "LScoreHandles$Handles;") ∈ lw_all := lw_in 76 (by decide +kernel) rfl
theorem qw77 : (Jvm.Cond.fieldLink "ScoreHandles$Runner" (15 : Nat) "ScoreHandles$Runner" "rows" "LScoreHandles$Rows;") ∈ lw_all := lw_in 77 (by decide +kernel) rfl
theorem qw78 : (Jvm.Cond.fieldLink "ScoreHandles$Runner" (19 : Nat) "ScoreHandles$Runner" "frames" "[J") ∈ lw_all := lw_in 78 (by decide +kernel) rfl
theorem qw79 : (Jvm.Cond.fieldLink "ScoreHandles$Runner" (27 : Nat) "ScoreHandles$Runner" "steps" "I") ∈ lw_all := lw_in 79 (by decide +kernel) rfl
theorem qn80 : (Jvm.Cond.fieldLinkNest "ScoreHandles" (173 : Nat) "ScoreHandles$Runner" "steps" "I" "ScoreHandles") ∈ lw_nest := lw_inN 80 (by decide +kernel) rfl
theorem qw81 : (Jvm.Cond.fieldLink "ScoreHandles$Runner" (30 : Nat) "ScoreHandles$Runner" "failures" "I") ∈ lw_all := lw_in 81 (by decide +kernel) rfl
theorem qn82 : (Jvm.Cond.fieldLinkNest "ScoreHandles" (176 : Nat) "ScoreHandles$Runner" "failures" "I" "ScoreHandles") ∈ lw_nest := lw_inN 82 (by decide +kernel) rfl
theorem qw83 : (Jvm.Cond.fieldLink "ScoreHandles$Runner" (23 : Nat) "ScoreHandles$Runner" "failedLast" "I") ∈ lw_all := lw_in 83 (by decide +kernel) rfl
theorem qn84 : (Jvm.Cond.fieldLinkNest "ScoreHandles" (179 : Nat) "ScoreHandles$Runner" "failedLast" "I" "ScoreHandles") ∈ lw_nest := lw_inN 84 (by decide +kernel) rfl
theorem qw85 : (Jvm.Cond.fieldLink "ScoreHandles$Runner" (33 : Nat) "ScoreHandles$Runner" "failure" "I") ∈ lw_all := lw_in 85 (by decide +kernel) rfl
theorem qn86 : (Jvm.Cond.fieldLinkNest "ScoreHandles" (163 : Nat) "ScoreHandles$Runner" "failure" "I" "ScoreHandles") ∈ lw_nest := lw_inN 86 (by decide +kernel) rfl
theorem qw87 : (Jvm.Cond.laysFinal "ScoreHandles$Runner" "ScoreHandles$Runner" "handles" "LScoreHandles$Handles;") ∈ lw_all := lw_in 87 (by decide +kernel) rfl
theorem qw89 : (Jvm.Cond.laysFinal "ScoreHandles$Runner" "ScoreHandles$Runner" "rows" "LScoreHandles$Rows;") ∈ lw_all := lw_in 89 (by decide +kernel) rfl
theorem qw91 : (Jvm.Cond.laysFinal "ScoreHandles$Runner" "ScoreHandles$Runner" "frames" "[J") ∈ lw_all := lw_in 91 (by decide +kernel) rfl
theorem qw93 : (Jvm.Cond.lays "ScoreHandles$Runner" "ScoreHandles$Runner" "steps" "I") ∈ lw_all := lw_in 93 (by decide +kernel) rfl
theorem qw95 : (Jvm.Cond.lays "ScoreHandles$Runner" "ScoreHandles$Runner" "failures" "I") ∈ lw_all := lw_in 95 (by decide +kernel) rfl
theorem qw97 : (Jvm.Cond.lays "ScoreHandles$Runner" "ScoreHandles$Runner" "failedLast" "I") ∈ lw_all := lw_in 97 (by decide +kernel) rfl
theorem qw99 : (Jvm.Cond.lays "ScoreHandles$Runner" "ScoreHandles$Runner" "failure" "I") ∈ lw_all := lw_in 99 (by decide +kernel) rfl
theorem qw102 : (Jvm.Cond.arrayClass Jvm.ClassFile.FieldType.long) ∈ lw_all := lw_in 102 (by decide +kernel) rfl
theorem qw103 : (Jvm.Cond.classLink "ScoreHandles" (43 : Nat) "ScoreHandles$Type") ∈ lw_all := lw_in 103 (by decide +kernel) rfl
theorem qw104 : (Jvm.Cond.instantiable "ScoreHandles$Type" (3 : Nat)) ∈ lw_all := lw_in 104 (by decide +kernel) rfl
theorem qn105 : (Jvm.Cond.methodLinkNest "ScoreHandles" (47 : Nat) ({ cls := "ScoreHandles$Type", name := "<init>", desc := "(II[I)V" } : Jvm.MethodName) "ScoreHandles") ∈ lw_nest := lw_inN 105 (by decide +kernel) rfl
theorem qw106 : (Jvm.Cond.instanceMethod ({ cls := "ScoreHandles$Type", name := "<init>", desc := "(II[I)V" } : Jvm.MethodName)) ∈ lw_all := lw_in 106 (by decide +kernel) rfl
theorem qw107 : (Jvm.Cond.code ({ cls := "ScoreHandles$Type", name := "<init>", desc := "(II[I)V" } : Jvm.MethodName) prog_11_method_1_code (4 : Nat) (Option.none : Option Jvm.ClassFile.FieldType)) ∈ lw_all := lw_in 107 (by decide +kernel) rfl
theorem qw108 : (Jvm.Cond.methodLink "ScoreHandles$Type" (3 : Nat) ({ cls := "java/lang/Object", name := "<init>", desc := "()V" } : Jvm.MethodName)) ∈ lw_all := lw_in 108 (by decide +kernel) rfl
theorem qw109 : (Jvm.Cond.fieldLink "ScoreHandles$Type" (9 : Nat) "ScoreHandles$Type" "result" "I") ∈ lw_all := lw_in 109 (by decide +kernel) rfl
theorem qn110 : (Jvm.Cond.fieldLinkNest "ScoreHandles" (131 : Nat) "ScoreHandles$Type" "result" "I" "ScoreHandles") ∈ lw_nest := lw_inN 110 (by decide +kernel) rfl
theorem qn111 : (Jvm.Cond.fieldLinkNest "ScoreHandles$Maker" (121 : Nat) "ScoreHandles$Type" "result" "I" "ScoreHandles") ∈ lw_nest := lw_inN 111 (by decide +kernel) rfl
theorem qn112 : (Jvm.Cond.fieldLinkNest "ScoreHandles$Runner" (208 : Nat) "ScoreHandles$Type" "result" "I" "ScoreHandles") ∈ lw_nest := lw_inN 112 (by decide +kernel) rfl
theorem qw113 : (Jvm.Cond.fieldLink "ScoreHandles$Type" (15 : Nat) "ScoreHandles$Type" "many" "I") ∈ lw_all := lw_in 113 (by decide +kernel) rfl
theorem qn114 : (Jvm.Cond.fieldLinkNest "ScoreHandles$Maker" (94 : Nat) "ScoreHandles$Type" "many" "I" "ScoreHandles") ∈ lw_nest := lw_inN 114 (by decide +kernel) rfl
theorem qn115 : (Jvm.Cond.fieldLinkNest "ScoreHandles" (129 : Nat) "ScoreHandles$Type" "many" "I" "ScoreHandles") ∈ lw_nest := lw_inN 115 (by decide +kernel) rfl
theorem qn116 : (Jvm.Cond.fieldLinkNest "ScoreHandles$Runner" (225 : Nat) "ScoreHandles$Type" "many" "I" "ScoreHandles") ∈ lw_nest := lw_inN 116 (by decide +kernel) rfl
theorem qw117 : (Jvm.Cond.fieldLink "ScoreHandles$Type" (18 : Nat) "ScoreHandles$Type" "kinds" "[I") ∈ lw_all := lw_in 117 (by decide +kernel) rfl
theorem qw118 : (Jvm.Cond.laysFinal "ScoreHandles$Type" "ScoreHandles$Type" "result" "I") ∈ lw_all := lw_in 118 (by decide +kernel) rfl
theorem qw120 : (Jvm.Cond.laysFinal "ScoreHandles$Type" "ScoreHandles$Type" "many" "I") ∈ lw_all := lw_in 120 (by decide +kernel) rfl
theorem qw122 : (Jvm.Cond.laysFinal "ScoreHandles$Type" "ScoreHandles$Type" "kinds" "[I") ∈ lw_all := lw_in 122 (by decide +kernel) rfl
theorem qw125 : (Jvm.Cond.arrayClass Jvm.ClassFile.FieldType.int) ∈ lw_all := lw_in 125 (by decide +kernel) rfl
theorem qw126 : (Jvm.Cond.fieldLink "ScoreHandles" (13 : Nat) "ScoreHandles" "rows" "LScoreHandles$Rows;") ∈ lw_all := lw_in 126 (by decide +kernel) rfl
theorem qw127 : (Jvm.Cond.fieldLink "ScoreHandles" (19 : Nat) "ScoreHandles" "handles" "LScoreHandles$Handles;") ∈ lw_all := lw_in 127 (by decide +kernel) rfl
theorem qw128 : (Jvm.Cond.fieldLink "ScoreHandles" (28 : Nat) "ScoreHandles" "maker" "LScoreHandles$Maker;") ∈ lw_all := lw_in 128 (by decide +kernel) rfl
theorem qw129 : (Jvm.Cond.fieldLink "ScoreHandles" (35 : Nat) "ScoreHandles" "runner" "LScoreHandles$Runner;") ∈ lw_all := lw_in 129 (by decide +kernel) rfl
theorem qw130 : (Jvm.Cond.fieldLink "ScoreHandles" (39 : Nat) "ScoreHandles" "numbers" "[J") ∈ lw_all := lw_in 130 (by decide +kernel) rfl
theorem qw131 : (Jvm.Cond.fieldLink "ScoreHandles" (50 : Nat) "ScoreHandles" "atHand" "LScoreHandles$Type;") ∈ lw_all := lw_in 131 (by decide +kernel) rfl
theorem qw132 : (Jvm.Cond.fieldLink "ScoreHandles" (170 : Nat) "ScoreHandles" "result" "J") ∈ lw_all := lw_in 132 (by decide +kernel) rfl
theorem qw133 : (Jvm.Cond.fieldLink "ScoreHandles" (149 : Nat) "ScoreHandles" "runs" "I") ∈ lw_all := lw_in 133 (by decide +kernel) rfl
theorem qw134 : (Jvm.Cond.laysFinal "ScoreHandles" "ScoreHandles" "rows" "LScoreHandles$Rows;") ∈ lw_all := lw_in 134 (by decide +kernel) rfl
theorem qw136 : (Jvm.Cond.laysFinal "ScoreHandles" "ScoreHandles" "handles" "LScoreHandles$Handles;") ∈ lw_all := lw_in 136 (by decide +kernel) rfl
theorem qw138 : (Jvm.Cond.laysFinal "ScoreHandles" "ScoreHandles" "maker" "LScoreHandles$Maker;") ∈ lw_all := lw_in 138 (by decide +kernel) rfl
theorem qw140 : (Jvm.Cond.laysFinal "ScoreHandles" "ScoreHandles" "runner" "LScoreHandles$Runner;") ∈ lw_all := lw_in 140 (by decide +kernel) rfl
theorem qw142 : (Jvm.Cond.laysFinal "ScoreHandles" "ScoreHandles" "numbers" "[J") ∈ lw_all := lw_in 142 (by decide +kernel) rfl
theorem qw144 : (Jvm.Cond.lays "ScoreHandles" "ScoreHandles" "atHand" "LScoreHandles$Type;") ∈ lw_all := lw_in 144 (by decide +kernel) rfl
theorem qw146 : (Jvm.Cond.lays "ScoreHandles" "ScoreHandles" "result" "J") ∈ lw_all := lw_in 146 (by decide +kernel) rfl
theorem qw148 : (Jvm.Cond.lays "ScoreHandles" "ScoreHandles" "runs" "I") ∈ lw_all := lw_in 148 (by decide +kernel) rfl
theorem qw151 : (Jvm.Cond.methodLink "ScoreHandlesLaw" (13 : Nat) ({ cls := "ScoreHandles", name := "row", desc := "(II)I" } : Jvm.MethodName)) ∈ lw_all := lw_in 151 (by decide +kernel) rfl
theorem qw152 : (Jvm.Cond.instanceMethod ({ cls := "ScoreHandles", name := "row", desc := "(II)I" } : Jvm.MethodName)) ∈ lw_all := lw_in 152 (by decide +kernel) rfl
theorem qw153 : (Jvm.Cond.selects "ScoreHandles" ({ cls := "ScoreHandles", name := "row", desc := "(II)I" } : Jvm.MethodName) ({ cls := "ScoreHandles", name := "row", desc := "(II)I" } : Jvm.MethodName)) ∈ lw_all := lw_in 153 (by decide +kernel) rfl
theorem qw154 : (Jvm.Cond.code ({ cls := "ScoreHandles", name := "row", desc := "(II)I" } : Jvm.MethodName) prog_1_method_2_code (3 : Nat) (Option.some Jvm.ClassFile.FieldType.int)) ∈ lw_all := lw_in 154 (by decide +kernel) rfl
theorem qn155 : (Jvm.Cond.methodLinkNest "ScoreHandles" (54 : Nat) ({ cls := "ScoreHandles$Kind", name := "isLane", desc := "(I)Z" } : Jvm.MethodName) "ScoreHandles") ∈ lw_nest := lw_inN 155 (by decide +kernel) rfl
theorem qw156 : (Jvm.Cond.static ({ cls := "ScoreHandles$Kind", name := "isLane", desc := "(I)Z" } : Jvm.MethodName)) ∈ lw_all := lw_in 156 (by decide +kernel) rfl
theorem qw157 : (Jvm.Cond.code ({ cls := "ScoreHandles$Kind", name := "isLane", desc := "(I)Z" } : Jvm.MethodName) prog_4_method_3_code (1 : Nat) (Option.some Jvm.ClassFile.FieldType.boolean)) ∈ lw_all := lw_in 157 (by decide +kernel) rfl
theorem qn158 : (Jvm.Cond.methodLinkNest "ScoreHandles" (58 : Nat) ({ cls := "ScoreHandles$Rows", name := "added", desc := "(II)I" } : Jvm.MethodName) "ScoreHandles") ∈ lw_nest := lw_inN 158 (by decide +kernel) rfl
theorem qw160 : (Jvm.Cond.instanceMethod ({ cls := "ScoreHandles$Rows", name := "added", desc := "(II)I" } : Jvm.MethodName)) ∈ lw_all := lw_in 160 (by decide +kernel) rfl
theorem qw161 : (Jvm.Cond.code ({ cls := "ScoreHandles$Rows", name := "added", desc := "(II)I" } : Jvm.MethodName) prog_8_method_3_code (3 : Nat) (Option.some Jvm.ClassFile.FieldType.int)) ∈ lw_all := lw_in 161 (by decide +kernel) rfl
theorem qw162 : (Jvm.Cond.instantiable "ScoreHandles$Row" (2 : Nat)) ∈ lw_all := lw_in 162 (by decide +kernel) rfl
theorem qn163 : (Jvm.Cond.methodLinkNest "ScoreHandles$Rows" (21 : Nat) ({ cls := "ScoreHandles$Row", name := "<init>", desc := "(II)V" } : Jvm.MethodName) "ScoreHandles") ∈ lw_nest := lw_inN 163 (by decide +kernel) rfl
theorem qw164 : (Jvm.Cond.instanceMethod ({ cls := "ScoreHandles$Row", name := "<init>", desc := "(II)V" } : Jvm.MethodName)) ∈ lw_all := lw_in 164 (by decide +kernel) rfl
theorem qw165 : (Jvm.Cond.code ({ cls := "ScoreHandles$Row", name := "<init>", desc := "(II)V" } : Jvm.MethodName) prog_7_method_1_code (3 : Nat) (Option.none : Option Jvm.ClassFile.FieldType)) ∈ lw_all := lw_in 165 (by decide +kernel) rfl
theorem qw166 : (Jvm.Cond.methodLink "ScoreHandles$Row" (3 : Nat) ({ cls := "java/lang/Object", name := "<init>", desc := "()V" } : Jvm.MethodName)) ∈ lw_all := lw_in 166 (by decide +kernel) rfl
theorem qw167 : (Jvm.Cond.methodLink "ScoreHandles$Row" (15 : Nat) ({ cls := "java/lang/Math", name := "min", desc := "(II)I" } : Jvm.MethodName)) ∈ lw_all := lw_in 167 (by decide +kernel) rfl
theorem qw168 : (Jvm.Cond.static ({ cls := "java/lang/Math", name := "min", desc := "(II)I" } : Jvm.MethodName)) ∈ lw_all := lw_in 168 (by decide +kernel) rfl
theorem qw169 : (Jvm.Cond.code ({ cls := "java/lang/Math", name := "min", desc := "(II)I" } : Jvm.MethodName) prog_17_method_69_code (2 : Nat) (Option.some Jvm.ClassFile.FieldType.int)) ∈ lw_all := lw_in 169 (by decide +kernel) rfl
theorem qw170 : (Jvm.Cond.methodLink "ScoreHandles$Row" (21 : Nat) ({ cls := "java/lang/Math", name := "max", desc := "(II)I" } : Jvm.MethodName)) ∈ lw_all := lw_in 170 (by decide +kernel) rfl
theorem qw171 : (Jvm.Cond.static ({ cls := "java/lang/Math", name := "max", desc := "(II)I" } : Jvm.MethodName)) ∈ lw_all := lw_in 171 (by decide +kernel) rfl
theorem qw172 : (Jvm.Cond.code ({ cls := "java/lang/Math", name := "max", desc := "(II)I" } : Jvm.MethodName) prog_17_method_65_code (2 : Nat) (Option.some Jvm.ClassFile.FieldType.int)) ∈ lw_all := lw_in 172 (by decide +kernel) rfl
theorem qw173 : (Jvm.Cond.fieldLink "ScoreHandles$Row" (9 : Nat) "ScoreHandles$Row" "lane" "I") ∈ lw_all := lw_in 173 (by decide +kernel) rfl
theorem qn174 : (Jvm.Cond.fieldLinkNest "ScoreHandles" (72 : Nat) "ScoreHandles$Row" "lane" "I" "ScoreHandles") ∈ lw_nest := lw_inN 174 (by decide +kernel) rfl
theorem qn175 : (Jvm.Cond.fieldLinkNest "ScoreHandles$Rows" (36 : Nat) "ScoreHandles$Row" "lane" "I" "ScoreHandles") ∈ lw_nest := lw_inN 175 (by decide +kernel) rfl
theorem qw176 : (Jvm.Cond.fieldLink "ScoreHandles$Row" (24 : Nat) "ScoreHandles$Row" "items" "[J") ∈ lw_all := lw_in 176 (by decide +kernel) rfl
theorem qw177 : (Jvm.Cond.laysFinal "ScoreHandles$Row" "ScoreHandles$Row" "lane" "I") ∈ lw_all := lw_in 177 (by decide +kernel) rfl
theorem qw179 : (Jvm.Cond.laysFinal "ScoreHandles$Row" "ScoreHandles$Row" "items" "[J") ∈ lw_all := lw_in 179 (by decide +kernel) rfl
theorem qw182 : (Jvm.Cond.methodLink "ScoreHandlesLaw" (20 : Nat) ({ cls := "ScoreHandles", name := "put", desc := "(IIJ)I" } : Jvm.MethodName)) ∈ lw_all := lw_in 182 (by decide +kernel) rfl
theorem qw183 : (Jvm.Cond.instanceMethod ({ cls := "ScoreHandles", name := "put", desc := "(IIJ)I" } : Jvm.MethodName)) ∈ lw_all := lw_in 183 (by decide +kernel) rfl
theorem qw184 : (Jvm.Cond.selects "ScoreHandles" ({ cls := "ScoreHandles", name := "put", desc := "(IIJ)I" } : Jvm.MethodName) ({ cls := "ScoreHandles", name := "put", desc := "(IIJ)I" } : Jvm.MethodName)) ∈ lw_all := lw_in 184 (by decide +kernel) rfl
theorem qw185 : (Jvm.Cond.code ({ cls := "ScoreHandles", name := "put", desc := "(IIJ)I" } : Jvm.MethodName) prog_1_method_3_code (6 : Nat) (Option.some Jvm.ClassFile.FieldType.int)) ∈ lw_all := lw_in 185 (by decide +kernel) rfl
theorem qn186 : (Jvm.Cond.methodLinkNest "ScoreHandles" (62 : Nat) ({ cls := "ScoreHandles$Rows", name := "at", desc := "(J)LScoreHandles$Row;" } : Jvm.MethodName) "ScoreHandles") ∈ lw_nest := lw_inN 186 (by decide +kernel) rfl
theorem qw188 : (Jvm.Cond.instanceMethod ({ cls := "ScoreHandles$Rows", name := "at", desc := "(J)LScoreHandles$Row;" } : Jvm.MethodName)) ∈ lw_all := lw_in 188 (by decide +kernel) rfl
theorem qw189 : (Jvm.Cond.code ({ cls := "ScoreHandles$Rows", name := "at", desc := "(J)LScoreHandles$Row;" } : Jvm.MethodName) prog_8_method_2_code (3 : Nat) (Option.some (Jvm.ClassFile.FieldType.object "ScoreHandles$Row"))) ∈ lw_all := lw_in 189 (by decide +kernel) rfl
theorem qn190 : (Jvm.Cond.methodLinkNest "ScoreHandles" (66 : Nat) ({ cls := "ScoreHandles$Row", name := "has", desc := "(J)Z" } : Jvm.MethodName) "ScoreHandles") ∈ lw_nest := lw_inN 190 (by decide +kernel) rfl
theorem qw192 : (Jvm.Cond.instanceMethod ({ cls := "ScoreHandles$Row", name := "has", desc := "(J)Z" } : Jvm.MethodName)) ∈ lw_all := lw_in 192 (by decide +kernel) rfl
theorem qw193 : (Jvm.Cond.code ({ cls := "ScoreHandles$Row", name := "has", desc := "(J)Z" } : Jvm.MethodName) prog_7_method_3_code (3 : Nat) (Option.some Jvm.ClassFile.FieldType.boolean)) ∈ lw_all := lw_in 193 (by decide +kernel) rfl
theorem qn194 : (Jvm.Cond.methodLinkNest "ScoreHandles" (76 : Nat) ({ cls := "ScoreHandles$Kind", name := "fromBits", desc := "(IJ)J" } : Jvm.MethodName) "ScoreHandles") ∈ lw_nest := lw_inN 194 (by decide +kernel) rfl
theorem qw195 : (Jvm.Cond.static ({ cls := "ScoreHandles$Kind", name := "fromBits", desc := "(IJ)J" } : Jvm.MethodName)) ∈ lw_all := lw_in 195 (by decide +kernel) rfl
theorem qw196 : (Jvm.Cond.code ({ cls := "ScoreHandles$Kind", name := "fromBits", desc := "(IJ)J" } : Jvm.MethodName) prog_4_method_7_code (3 : Nat) (Option.some Jvm.ClassFile.FieldType.long)) ∈ lw_all := lw_in 196 (by decide +kernel) rfl
theorem qw197 : (Jvm.Cond.fieldLink "ScoreHandles$Kind" (15 : Nat) "ScoreHandles$Real" "SINGLE" "LScoreHandles$Real;") ∈ lw_all := lw_in 197 (by decide +kernel) rfl
theorem qn199 : (Jvm.Cond.methodLinkNest "ScoreHandles$Kind" (21 : Nat) ({ cls := "ScoreHandles$Real", name := "plain", desc := "(J)J" } : Jvm.MethodName) "ScoreHandles") ∈ lw_nest := lw_inN 199 (by decide +kernel) rfl
theorem qw201 : (Jvm.Cond.instanceMethod ({ cls := "ScoreHandles$Real", name := "plain", desc := "(J)J" } : Jvm.MethodName)) ∈ lw_all := lw_in 201 (by decide +kernel) rfl
theorem qw202 : (Jvm.Cond.instantiable "ScoreHandles$Real" (7 : Nat)) ∈ lw_all := lw_in 202 (by decide +kernel) rfl
theorem qw203 : (Jvm.Cond.code ({ cls := "ScoreHandles$Real", name := "plain", desc := "(J)J" } : Jvm.MethodName) prog_6_method_9_code (3 : Nat) (Option.some Jvm.ClassFile.FieldType.long)) ∈ lw_all := lw_in 203 (by decide +kernel) rfl
theorem qw204 : (Jvm.Cond.methodLink "ScoreHandles$Real" (53 : Nat) ({ cls := "ScoreHandles$Real", name := "isNoNumber", desc := "(J)Z" } : Jvm.MethodName)) ∈ lw_all := lw_in 204 (by decide +kernel) rfl
theorem qw206 : (Jvm.Cond.instanceMethod ({ cls := "ScoreHandles$Real", name := "isNoNumber", desc := "(J)Z" } : Jvm.MethodName)) ∈ lw_all := lw_in 206 (by decide +kernel) rfl
theorem qw207 : (Jvm.Cond.code ({ cls := "ScoreHandles$Real", name := "isNoNumber", desc := "(J)Z" } : Jvm.MethodName) prog_6_method_7_code (3 : Nat) (Option.some Jvm.ClassFile.FieldType.boolean)) ∈ lw_all := lw_in 207 (by decide +kernel) rfl
theorem qw208 : (Jvm.Cond.methodLink "ScoreHandles$Real" (49 : Nat) ({ cls := "ScoreHandles$Real", name := "magnitude", desc := "(J)J" } : Jvm.MethodName)) ∈ lw_all := lw_in 208 (by decide +kernel) rfl
theorem qw210 : (Jvm.Cond.instanceMethod ({ cls := "ScoreHandles$Real", name := "magnitude", desc := "(J)J" } : Jvm.MethodName)) ∈ lw_all := lw_in 210 (by decide +kernel) rfl
theorem qw211 : (Jvm.Cond.code ({ cls := "ScoreHandles$Real", name := "magnitude", desc := "(J)J" } : Jvm.MethodName) prog_6_method_6_code (3 : Nat) (Option.some Jvm.ClassFile.FieldType.long)) ∈ lw_all := lw_in 211 (by decide +kernel) rfl
theorem qw212 : (Jvm.Cond.constantLong "ScoreHandles$Real" (39 : Nat) (-1 : Int64)) ∈ lw_all := lw_in 212 (by decide +kernel) rfl
theorem qw213 : (Jvm.Cond.methodLink "ScoreHandles$Real" (45 : Nat) ({ cls := "ScoreHandles$Real", name := "infinity", desc := "()J" } : Jvm.MethodName)) ∈ lw_all := lw_in 213 (by decide +kernel) rfl
theorem qw215 : (Jvm.Cond.instanceMethod ({ cls := "ScoreHandles$Real", name := "infinity", desc := "()J" } : Jvm.MethodName)) ∈ lw_all := lw_in 215 (by decide +kernel) rfl
theorem qw216 : (Jvm.Cond.code ({ cls := "ScoreHandles$Real", name := "infinity", desc := "()J" } : Jvm.MethodName) prog_6_method_4_code (1 : Nat) (Option.some Jvm.ClassFile.FieldType.long)) ∈ lw_all := lw_in 216 (by decide +kernel) rfl
theorem qw217 : (Jvm.Cond.methodLink "ScoreHandles$Real" (57 : Nat) ({ cls := "ScoreHandles$Real", name := "noNumber", desc := "()J" } : Jvm.MethodName)) ∈ lw_all := lw_in 217 (by decide +kernel) rfl
theorem qw219 : (Jvm.Cond.instanceMethod ({ cls := "ScoreHandles$Real", name := "noNumber", desc := "()J" } : Jvm.MethodName)) ∈ lw_all := lw_in 219 (by decide +kernel) rfl
theorem qw220 : (Jvm.Cond.code ({ cls := "ScoreHandles$Real", name := "noNumber", desc := "()J" } : Jvm.MethodName) prog_6_method_5_code (1 : Nat) (Option.some Jvm.ClassFile.FieldType.long)) ∈ lw_all := lw_in 220 (by decide +kernel) rfl
theorem qw221 : (Jvm.Cond.fieldLink "ScoreHandles$Kind" (25 : Nat) "ScoreHandles$Real" "DOUBLE" "LScoreHandles$Real;") ∈ lw_all := lw_in 221 (by decide +kernel) rfl
theorem qn223 : (Jvm.Cond.methodLinkNest "ScoreHandles" (80 : Nat) ({ cls := "ScoreHandles$Row", name := "set", desc := "(JJ)V" } : Jvm.MethodName) "ScoreHandles") ∈ lw_nest := lw_inN 223 (by decide +kernel) rfl
theorem qw225 : (Jvm.Cond.instanceMethod ({ cls := "ScoreHandles$Row", name := "set", desc := "(JJ)V" } : Jvm.MethodName)) ∈ lw_all := lw_in 225 (by decide +kernel) rfl
theorem qw226 : (Jvm.Cond.code ({ cls := "ScoreHandles$Row", name := "set", desc := "(JJ)V" } : Jvm.MethodName) prog_7_method_5_code (5 : Nat) (Option.none : Option Jvm.ClassFile.FieldType)) ∈ lw_all := lw_in 226 (by decide +kernel) rfl
theorem qw227 : (Jvm.Cond.methodLink "ScoreHandles$Row" (28 : Nat) ({ cls := "ScoreHandles$Row", name := "has", desc := "(J)Z" } : Jvm.MethodName)) ∈ lw_all := lw_in 227 (by decide +kernel) rfl
theorem qw228 : (Jvm.Cond.methodLink "ScoreHandlesLaw" (25 : Nat) ({ cls := "ScoreHandles", name := "item", desc := "(II)J" } : Jvm.MethodName)) ∈ lw_all := lw_in 228 (by decide +kernel) rfl
theorem qw229 : (Jvm.Cond.instanceMethod ({ cls := "ScoreHandles", name := "item", desc := "(II)J" } : Jvm.MethodName)) ∈ lw_all := lw_in 229 (by decide +kernel) rfl
theorem qw230 : (Jvm.Cond.selects "ScoreHandles" ({ cls := "ScoreHandles", name := "item", desc := "(II)J" } : Jvm.MethodName) ({ cls := "ScoreHandles", name := "item", desc := "(II)J" } : Jvm.MethodName)) ∈ lw_all := lw_in 230 (by decide +kernel) rfl
theorem qw231 : (Jvm.Cond.code ({ cls := "ScoreHandles", name := "item", desc := "(II)J" } : Jvm.MethodName) prog_1_method_4_code (4 : Nat) (Option.some Jvm.ClassFile.FieldType.long)) ∈ lw_all := lw_in 231 (by decide +kernel) rfl
theorem qn232 : (Jvm.Cond.methodLinkNest "ScoreHandles" (84 : Nat) ({ cls := "ScoreHandles$Row", name := "get", desc := "(J)J" } : Jvm.MethodName) "ScoreHandles") ∈ lw_nest := lw_inN 232 (by decide +kernel) rfl
theorem qw234 : (Jvm.Cond.instanceMethod ({ cls := "ScoreHandles$Row", name := "get", desc := "(J)J" } : Jvm.MethodName)) ∈ lw_all := lw_in 234 (by decide +kernel) rfl
theorem qw235 : (Jvm.Cond.code ({ cls := "ScoreHandles$Row", name := "get", desc := "(J)J" } : Jvm.MethodName) prog_7_method_4_code (3 : Nat) (Option.some Jvm.ClassFile.FieldType.long)) ∈ lw_all := lw_in 235 (by decide +kernel) rfl
theorem qw236 : (Jvm.Cond.methodLink "ScoreHandlesLaw" (30 : Nat) ({ cls := "ScoreHandles", name := "size", desc := "(I)I" } : Jvm.MethodName)) ∈ lw_all := lw_in 236 (by decide +kernel) rfl
theorem qw237 : (Jvm.Cond.instanceMethod ({ cls := "ScoreHandles", name := "size", desc := "(I)I" } : Jvm.MethodName)) ∈ lw_all := lw_in 237 (by decide +kernel) rfl
theorem qw238 : (Jvm.Cond.selects "ScoreHandles" ({ cls := "ScoreHandles", name := "size", desc := "(I)I" } : Jvm.MethodName) ({ cls := "ScoreHandles", name := "size", desc := "(I)I" } : Jvm.MethodName)) ∈ lw_all := lw_in 238 (by decide +kernel) rfl
theorem qw239 : (Jvm.Cond.code ({ cls := "ScoreHandles", name := "size", desc := "(I)I" } : Jvm.MethodName) prog_1_method_5_code (3 : Nat) (Option.some Jvm.ClassFile.FieldType.int)) ∈ lw_all := lw_in 239 (by decide +kernel) rfl
theorem qn240 : (Jvm.Cond.methodLinkNest "ScoreHandles" (88 : Nat) ({ cls := "ScoreHandles$Row", name := "many", desc := "()I" } : Jvm.MethodName) "ScoreHandles") ∈ lw_nest := lw_inN 240 (by decide +kernel) rfl
theorem qw242 : (Jvm.Cond.instanceMethod ({ cls := "ScoreHandles$Row", name := "many", desc := "()I" } : Jvm.MethodName)) ∈ lw_all := lw_in 242 (by decide +kernel) rfl
theorem qw243 : (Jvm.Cond.code ({ cls := "ScoreHandles$Row", name := "many", desc := "()I" } : Jvm.MethodName) prog_7_method_2_code (1 : Nat) (Option.some Jvm.ClassFile.FieldType.int)) ∈ lw_all := lw_in 243 (by decide +kernel) rfl
theorem qw244 : (Jvm.Cond.methodLink "ScoreHandlesLaw" (35 : Nat) ({ cls := "ScoreHandles", name := "type", desc := "(IIIIII)I" } : Jvm.MethodName)) ∈ lw_all := lw_in 244 (by decide +kernel) rfl
theorem qw245 : (Jvm.Cond.instanceMethod ({ cls := "ScoreHandles", name := "type", desc := "(IIIIII)I" } : Jvm.MethodName)) ∈ lw_all := lw_in 245 (by decide +kernel) rfl
theorem qw246 : (Jvm.Cond.selects "ScoreHandles" ({ cls := "ScoreHandles", name := "type", desc := "(IIIIII)I" } : Jvm.MethodName) ({ cls := "ScoreHandles", name := "type", desc := "(IIIIII)I" } : Jvm.MethodName)) ∈ lw_all := lw_in 246 (by decide +kernel) rfl
theorem qw247 : (Jvm.Cond.code ({ cls := "ScoreHandles", name := "type", desc := "(IIIIII)I" } : Jvm.MethodName) prog_1_method_6_code (9 : Nat) (Option.some Jvm.ClassFile.FieldType.int)) ∈ lw_all := lw_in 247 (by decide +kernel) rfl
theorem qn248 : (Jvm.Cond.methodLinkNest "ScoreHandles" (92 : Nat) ({ cls := "ScoreHandles$Kind", name := "isKind", desc := "(I)Z" } : Jvm.MethodName) "ScoreHandles") ∈ lw_nest := lw_inN 248 (by decide +kernel) rfl
theorem qw249 : (Jvm.Cond.static ({ cls := "ScoreHandles$Kind", name := "isKind", desc := "(I)Z" } : Jvm.MethodName)) ∈ lw_all := lw_in 249 (by decide +kernel) rfl
theorem qw250 : (Jvm.Cond.code ({ cls := "ScoreHandles$Kind", name := "isKind", desc := "(I)Z" } : Jvm.MethodName) prog_4_method_2_code (1 : Nat) (Option.some Jvm.ClassFile.FieldType.boolean)) ∈ lw_all := lw_in 250 (by decide +kernel) rfl
theorem qw251 : (Jvm.Cond.methodLink "ScoreHandlesLaw" (40 : Nat) ({ cls := "ScoreHandles", name := "make", desc := "(IIIIJ)I" } : Jvm.MethodName)) ∈ lw_all := lw_in 251 (by decide +kernel) rfl
theorem qw252 : (Jvm.Cond.instanceMethod ({ cls := "ScoreHandles", name := "make", desc := "(IIIIJ)I" } : Jvm.MethodName)) ∈ lw_all := lw_in 252 (by decide +kernel) rfl
theorem qw253 : (Jvm.Cond.selects "ScoreHandles" ({ cls := "ScoreHandles", name := "make", desc := "(IIIIJ)I" } : Jvm.MethodName) ({ cls := "ScoreHandles", name := "make", desc := "(IIIIJ)I" } : Jvm.MethodName)) ∈ lw_all := lw_in 253 (by decide +kernel) rfl
theorem qw254 : (Jvm.Cond.code ({ cls := "ScoreHandles", name := "make", desc := "(IIIIJ)I" } : Jvm.MethodName) prog_1_method_7_code (9 : Nat) (Option.some Jvm.ClassFile.FieldType.int)) ∈ lw_all := lw_in 254 (by decide +kernel) rfl
theorem qw255 : (Jvm.Cond.classLink "ScoreHandles" (95 : Nat) "ScoreHandles$Handle") ∈ lw_all := lw_in 255 (by decide +kernel) rfl
theorem qw256 : (Jvm.Cond.instantiable "ScoreHandles$Handle" (7 : Nat)) ∈ lw_all := lw_in 256 (by decide +kernel) rfl
theorem qn257 : (Jvm.Cond.methodLinkNest "ScoreHandles" (97 : Nat) ({ cls := "ScoreHandles$Handle", name := "<init>", desc := "(IIIIJ)V" } : Jvm.MethodName) "ScoreHandles") ∈ lw_nest := lw_inN 257 (by decide +kernel) rfl
theorem qw258 : (Jvm.Cond.instanceMethod ({ cls := "ScoreHandles$Handle", name := "<init>", desc := "(IIIIJ)V" } : Jvm.MethodName)) ∈ lw_all := lw_in 258 (by decide +kernel) rfl
theorem qw259 : (Jvm.Cond.code ({ cls := "ScoreHandles$Handle", name := "<init>", desc := "(IIIIJ)V" } : Jvm.MethodName) prog_2_method_1_code (7 : Nat) (Option.none : Option Jvm.ClassFile.FieldType)) ∈ lw_all := lw_in 259 (by decide +kernel) rfl
theorem qw260 : (Jvm.Cond.methodLink "ScoreHandles$Handle" (3 : Nat) ({ cls := "java/lang/Object", name := "<init>", desc := "()V" } : Jvm.MethodName)) ∈ lw_all := lw_in 260 (by decide +kernel) rfl
theorem qw261 : (Jvm.Cond.constant "ScoreHandles$Handle" (20 : Nat) (2071040 : Int32)) ∈ lw_all := lw_in 261 (by decide +kernel) rfl
theorem qn262 : (Jvm.Cond.methodLinkNest "ScoreHandles$Handle" (21 : Nat) ({ cls := "ScoreHandles$Sort", name := "isAmong", desc := "(II)Z" } : Jvm.MethodName) "ScoreHandles") ∈ lw_nest := lw_inN 262 (by decide +kernel) rfl
theorem qw263 : (Jvm.Cond.static ({ cls := "ScoreHandles$Sort", name := "isAmong", desc := "(II)Z" } : Jvm.MethodName)) ∈ lw_all := lw_in 263 (by decide +kernel) rfl
theorem qw264 : (Jvm.Cond.code ({ cls := "ScoreHandles$Sort", name := "isAmong", desc := "(II)Z" } : Jvm.MethodName) prog_10_method_3_code (2 : Nat) (Option.some Jvm.ClassFile.FieldType.boolean)) ∈ lw_all := lw_in 264 (by decide +kernel) rfl
theorem qw265 : (Jvm.Cond.methodLink "ScoreHandles$Sort" (9 : Nat) ({ cls := "ScoreHandles$Sort", name := "isSort", desc := "(I)Z" } : Jvm.MethodName)) ∈ lw_all := lw_in 265 (by decide +kernel) rfl
theorem qw266 : (Jvm.Cond.static ({ cls := "ScoreHandles$Sort", name := "isSort", desc := "(I)Z" } : Jvm.MethodName)) ∈ lw_all := lw_in 266 (by decide +kernel) rfl
theorem qw267 : (Jvm.Cond.code ({ cls := "ScoreHandles$Sort", name := "isSort", desc := "(I)Z" } : Jvm.MethodName) prog_10_method_2_code (1 : Nat) (Option.some Jvm.ClassFile.FieldType.boolean)) ∈ lw_all := lw_in 267 (by decide +kernel) rfl
theorem qw268 : (Jvm.Cond.constant "ScoreHandles$Handle" (28 : Nat) (821248 : Int32)) ∈ lw_all := lw_in 268 (by decide +kernel) rfl
theorem qw269 : (Jvm.Cond.fieldLink "ScoreHandles$Handle" (9 : Nat) "ScoreHandles$Handle" "sort" "I") ∈ lw_all := lw_in 269 (by decide +kernel) rfl
theorem qn270 : (Jvm.Cond.fieldLinkNest "ScoreHandles$Maker" (19 : Nat) "ScoreHandles$Handle" "sort" "I" "ScoreHandles") ∈ lw_nest := lw_inN 270 (by decide +kernel) rfl
theorem qn271 : (Jvm.Cond.fieldLinkNest "ScoreHandles" (123 : Nat) "ScoreHandles$Handle" "sort" "I" "ScoreHandles") ∈ lw_nest := lw_inN 271 (by decide +kernel) rfl
theorem qn272 : (Jvm.Cond.fieldLinkNest "ScoreHandles$Runner" (68 : Nat) "ScoreHandles$Handle" "sort" "I" "ScoreHandles") ∈ lw_nest := lw_inN 272 (by decide +kernel) rfl
theorem qw273 : (Jvm.Cond.fieldLink "ScoreHandles$Handle" (15 : Nat) "ScoreHandles$Handle" "a" "I") ∈ lw_all := lw_in 273 (by decide +kernel) rfl
theorem qn274 : (Jvm.Cond.fieldLinkNest "ScoreHandles$Maker" (55 : Nat) "ScoreHandles$Handle" "a" "I" "ScoreHandles") ∈ lw_nest := lw_inN 274 (by decide +kernel) rfl
theorem qn275 : (Jvm.Cond.fieldLinkNest "ScoreHandles$Runner" (71 : Nat) "ScoreHandles$Handle" "a" "I" "ScoreHandles") ∈ lw_nest := lw_inN 275 (by decide +kernel) rfl
theorem qw276 : (Jvm.Cond.fieldLink "ScoreHandles$Handle" (25 : Nat) "ScoreHandles$Handle" "b" "I") ∈ lw_all := lw_in 276 (by decide +kernel) rfl
theorem qn277 : (Jvm.Cond.fieldLinkNest "ScoreHandles$Maker" (75 : Nat) "ScoreHandles$Handle" "b" "I" "ScoreHandles") ∈ lw_nest := lw_inN 277 (by decide +kernel) rfl
theorem qn278 : (Jvm.Cond.fieldLinkNest "ScoreHandles$Runner" (135 : Nat) "ScoreHandles$Handle" "b" "I" "ScoreHandles") ∈ lw_nest := lw_inN 278 (by decide +kernel) rfl
theorem qw279 : (Jvm.Cond.fieldLink "ScoreHandles$Handle" (29 : Nat) "ScoreHandles$Handle" "c" "I") ∈ lw_all := lw_in 279 (by decide +kernel) rfl
theorem qn280 : (Jvm.Cond.fieldLinkNest "ScoreHandles$Maker" (85 : Nat) "ScoreHandles$Handle" "c" "I" "ScoreHandles") ∈ lw_nest := lw_inN 280 (by decide +kernel) rfl
theorem qn281 : (Jvm.Cond.fieldLinkNest "ScoreHandles$Runner" (201 : Nat) "ScoreHandles$Handle" "c" "I" "ScoreHandles") ∈ lw_nest := lw_inN 281 (by decide +kernel) rfl
theorem qw282 : (Jvm.Cond.fieldLink "ScoreHandles$Handle" (32 : Nat) "ScoreHandles$Handle" "v" "J") ∈ lw_all := lw_in 282 (by decide +kernel) rfl
theorem qn283 : (Jvm.Cond.fieldLinkNest "ScoreHandles$Maker" (45 : Nat) "ScoreHandles$Handle" "v" "J" "ScoreHandles") ∈ lw_nest := lw_inN 283 (by decide +kernel) rfl
theorem qn284 : (Jvm.Cond.fieldLinkNest "ScoreHandles$Runner" (117 : Nat) "ScoreHandles$Handle" "v" "J" "ScoreHandles") ∈ lw_nest := lw_inN 284 (by decide +kernel) rfl
theorem qw285 : (Jvm.Cond.fieldLink "ScoreHandles$Handle" (39 : Nat) "ScoreHandles$Handle" "type" "LScoreHandles$Type;") ∈ lw_all := lw_in 285 (by decide +kernel) rfl
theorem qn286 : (Jvm.Cond.fieldLinkNest "ScoreHandles$Handles" (25 : Nat) "ScoreHandles$Handle" "type" "LScoreHandles$Type;" "ScoreHandles") ∈ lw_nest := lw_inN 286 (by decide +kernel) rfl
theorem qn287 : (Jvm.Cond.fieldLinkNest "ScoreHandles" (126 : Nat) "ScoreHandles$Handle" "type" "LScoreHandles$Type;" "ScoreHandles") ∈ lw_nest := lw_inN 287 (by decide +kernel) rfl
theorem qn288 : (Jvm.Cond.fieldLinkNest "ScoreHandles$Runner" (204 : Nat) "ScoreHandles$Handle" "type" "LScoreHandles$Type;" "ScoreHandles") ∈ lw_nest := lw_inN 288 (by decide +kernel) rfl
theorem qw289 : (Jvm.Cond.fieldLink "ScoreHandles$Handle" (36 : Nat) "ScoreHandles$Handle" "number" "I") ∈ lw_all := lw_in 289 (by decide +kernel) rfl
theorem qn290 : (Jvm.Cond.fieldLinkNest "ScoreHandles$Handles" (33 : Nat) "ScoreHandles$Handle" "number" "I" "ScoreHandles") ∈ lw_nest := lw_inN 290 (by decide +kernel) rfl
theorem qn291 : (Jvm.Cond.fieldLinkNest "ScoreHandles$Runner" (53 : Nat) "ScoreHandles$Handle" "number" "I" "ScoreHandles") ∈ lw_nest := lw_inN 291 (by decide +kernel) rfl
theorem qw292 : (Jvm.Cond.laysFinal "ScoreHandles$Handle" "ScoreHandles$Handle" "sort" "I") ∈ lw_all := lw_in 292 (by decide +kernel) rfl
theorem qw294 : (Jvm.Cond.laysFinal "ScoreHandles$Handle" "ScoreHandles$Handle" "a" "I") ∈ lw_all := lw_in 294 (by decide +kernel) rfl
theorem qw296 : (Jvm.Cond.laysFinal "ScoreHandles$Handle" "ScoreHandles$Handle" "b" "I") ∈ lw_all := lw_in 296 (by decide +kernel) rfl
theorem qw298 : (Jvm.Cond.laysFinal "ScoreHandles$Handle" "ScoreHandles$Handle" "c" "I") ∈ lw_all := lw_in 298 (by decide +kernel) rfl
theorem qw300 : (Jvm.Cond.lays "ScoreHandles$Handle" "ScoreHandles$Handle" "v" "J") ∈ lw_all := lw_in 300 (by decide +kernel) rfl
theorem qw302 : (Jvm.Cond.lays "ScoreHandles$Handle" "ScoreHandles$Handle" "type" "LScoreHandles$Type;") ∈ lw_all := lw_in 302 (by decide +kernel) rfl
theorem qw304 : (Jvm.Cond.lays "ScoreHandles$Handle" "ScoreHandles$Handle" "number" "I") ∈ lw_all := lw_in 304 (by decide +kernel) rfl
theorem qn307 : (Jvm.Cond.methodLinkNest "ScoreHandles" (100 : Nat) ({ cls := "ScoreHandles$Maker", name := "isTold", desc := "(LScoreHandles$Handle;)Z" } : Jvm.MethodName) "ScoreHandles") ∈ lw_nest := lw_inN 307 (by decide +kernel) rfl
theorem qw309 : (Jvm.Cond.instanceMethod ({ cls := "ScoreHandles$Maker", name := "isTold", desc := "(LScoreHandles$Handle;)Z" } : Jvm.MethodName)) ∈ lw_all := lw_in 309 (by decide +kernel) rfl
theorem qw310 : (Jvm.Cond.code ({ cls := "ScoreHandles$Maker", name := "isTold", desc := "(LScoreHandles$Handle;)Z" } : Jvm.MethodName) prog_5_method_2_code (2 : Nat) (Option.some Jvm.ClassFile.FieldType.boolean)) ∈ lw_all := lw_in 310 (by decide +kernel) rfl
theorem qn311 : (Jvm.Cond.methodLinkNest "ScoreHandles$Maker" (25 : Nat) ({ cls := "ScoreHandles$Sort", name := "isSort", desc := "(I)Z" } : Jvm.MethodName) "ScoreHandles") ∈ lw_nest := lw_inN 311 (by decide +kernel) rfl
theorem qw312 : (Jvm.Cond.methodLink "ScoreHandles$Maker" (31 : Nat) ({ cls := "ScoreHandles$Maker", name := "isFirstTold", desc := "(LScoreHandles$Handle;)Z" } : Jvm.MethodName)) ∈ lw_all := lw_in 312 (by decide +kernel) rfl
theorem qw314 : (Jvm.Cond.instanceMethod ({ cls := "ScoreHandles$Maker", name := "isFirstTold", desc := "(LScoreHandles$Handle;)Z" } : Jvm.MethodName)) ∈ lw_all := lw_in 314 (by decide +kernel) rfl
theorem qw315 : (Jvm.Cond.code ({ cls := "ScoreHandles$Maker", name := "isFirstTold", desc := "(LScoreHandles$Handle;)Z" } : Jvm.MethodName) prog_5_method_3_code (2 : Nat) (Option.some Jvm.ClassFile.FieldType.boolean)) ∈ lw_all := lw_in 315 (by decide +kernel) rfl
theorem qn316 : (Jvm.Cond.methodLinkNest "ScoreHandles$Maker" (58 : Nat) ({ cls := "ScoreHandles$Kind", name := "isKind", desc := "(I)Z" } : Jvm.MethodName) "ScoreHandles") ∈ lw_nest := lw_inN 316 (by decide +kernel) rfl
theorem qn317 : (Jvm.Cond.methodLinkNest "ScoreHandles$Maker" (63 : Nat) ({ cls := "ScoreHandles$Kind", name := "isLane", desc := "(I)Z" } : Jvm.MethodName) "ScoreHandles") ∈ lw_nest := lw_inN 317 (by decide +kernel) rfl
theorem qn318 : (Jvm.Cond.methodLinkNest "ScoreHandles$Maker" (66 : Nat) ({ cls := "ScoreHandles$Kind", name := "isReckoned", desc := "(I)Z" } : Jvm.MethodName) "ScoreHandles") ∈ lw_nest := lw_inN 318 (by decide +kernel) rfl
theorem qw319 : (Jvm.Cond.static ({ cls := "ScoreHandles$Kind", name := "isReckoned", desc := "(I)Z" } : Jvm.MethodName)) ∈ lw_all := lw_in 319 (by decide +kernel) rfl
theorem qw320 : (Jvm.Cond.code ({ cls := "ScoreHandles$Kind", name := "isReckoned", desc := "(I)Z" } : Jvm.MethodName) prog_4_method_4_code (1 : Nat) (Option.some Jvm.ClassFile.FieldType.boolean)) ∈ lw_all := lw_in 320 (by decide +kernel) rfl
theorem qn321 : (Jvm.Cond.methodLinkNest "ScoreHandles$Maker" (69 : Nat) ({ cls := "ScoreHandles$Handles", name := "at", desc := "(I)LScoreHandles$Handle;" } : Jvm.MethodName) "ScoreHandles") ∈ lw_nest := lw_inN 321 (by decide +kernel) rfl
theorem qw323 : (Jvm.Cond.instanceMethod ({ cls := "ScoreHandles$Handles", name := "at", desc := "(I)LScoreHandles$Handle;" } : Jvm.MethodName)) ∈ lw_all := lw_in 323 (by decide +kernel) rfl
theorem qw324 : (Jvm.Cond.code ({ cls := "ScoreHandles$Handles", name := "at", desc := "(I)LScoreHandles$Handle;" } : Jvm.MethodName) prog_3_method_2_code (2 : Nat) (Option.some (Jvm.ClassFile.FieldType.object "ScoreHandles$Handle"))) ∈ lw_all := lw_in 324 (by decide +kernel) rfl
theorem qw325 : (Jvm.Cond.methodLink "ScoreHandles$Maker" (35 : Nat) ({ cls := "ScoreHandles$Maker", name := "isSecondTold", desc := "(LScoreHandles$Handle;)Z" } : Jvm.MethodName)) ∈ lw_all := lw_in 325 (by decide +kernel) rfl
theorem qw327 : (Jvm.Cond.instanceMethod ({ cls := "ScoreHandles$Maker", name := "isSecondTold", desc := "(LScoreHandles$Handle;)Z" } : Jvm.MethodName)) ∈ lw_all := lw_in 327 (by decide +kernel) rfl
theorem qw328 : (Jvm.Cond.code ({ cls := "ScoreHandles$Maker", name := "isSecondTold", desc := "(LScoreHandles$Handle;)Z" } : Jvm.MethodName) prog_5_method_4_code (3 : Nat) (Option.some Jvm.ClassFile.FieldType.boolean)) ∈ lw_all := lw_in 328 (by decide +kernel) rfl
theorem qw329 : (Jvm.Cond.methodLink "ScoreHandles$Maker" (78 : Nat) ({ cls := "ScoreHandles$Maker", name := "parametersOf", desc := "(I)I" } : Jvm.MethodName)) ∈ lw_all := lw_in 329 (by decide +kernel) rfl
theorem qw331 : (Jvm.Cond.instanceMethod ({ cls := "ScoreHandles$Maker", name := "parametersOf", desc := "(I)I" } : Jvm.MethodName)) ∈ lw_all := lw_in 331 (by decide +kernel) rfl
theorem qw332 : (Jvm.Cond.code ({ cls := "ScoreHandles$Maker", name := "parametersOf", desc := "(I)I" } : Jvm.MethodName) prog_5_method_7_code (3 : Nat) (Option.some Jvm.ClassFile.FieldType.int)) ∈ lw_all := lw_in 332 (by decide +kernel) rfl
theorem qn333 : (Jvm.Cond.methodLinkNest "ScoreHandles$Maker" (90 : Nat) ({ cls := "ScoreHandles$Handles", name := "typeAt", desc := "(I)LScoreHandles$Type;" } : Jvm.MethodName) "ScoreHandles") ∈ lw_nest := lw_inN 333 (by decide +kernel) rfl
theorem qw335 : (Jvm.Cond.instanceMethod ({ cls := "ScoreHandles$Handles", name := "typeAt", desc := "(I)LScoreHandles$Type;" } : Jvm.MethodName)) ∈ lw_all := lw_in 335 (by decide +kernel) rfl
theorem qw336 : (Jvm.Cond.code ({ cls := "ScoreHandles$Handles", name := "typeAt", desc := "(I)LScoreHandles$Type;" } : Jvm.MethodName) prog_3_method_3_code (3 : Nat) (Option.some (Jvm.ClassFile.FieldType.object "ScoreHandles$Type"))) ∈ lw_all := lw_in 336 (by decide +kernel) rfl
theorem qw337 : (Jvm.Cond.methodLink "ScoreHandles$Handles" (21 : Nat) ({ cls := "ScoreHandles$Handles", name := "at", desc := "(I)LScoreHandles$Handle;" } : Jvm.MethodName)) ∈ lw_all := lw_in 337 (by decide +kernel) rfl
theorem qw338 : (Jvm.Cond.methodLink "ScoreHandles$Maker" (82 : Nat) ({ cls := "ScoreHandles$Maker", name := "isHeld", desc := "(I)Z" } : Jvm.MethodName)) ∈ lw_all := lw_in 338 (by decide +kernel) rfl
theorem qw339 : (Jvm.Cond.static ({ cls := "ScoreHandles$Maker", name := "isHeld", desc := "(I)Z" } : Jvm.MethodName)) ∈ lw_all := lw_in 339 (by decide +kernel) rfl
theorem qw340 : (Jvm.Cond.code ({ cls := "ScoreHandles$Maker", name := "isHeld", desc := "(I)Z" } : Jvm.MethodName) prog_5_method_6_code (1 : Nat) (Option.some Jvm.ClassFile.FieldType.boolean)) ∈ lw_all := lw_in 340 (by decide +kernel) rfl
theorem qw341 : (Jvm.Cond.methodLink "ScoreHandles$Maker" (38 : Nat) ({ cls := "ScoreHandles$Maker", name := "isThirdTold", desc := "(LScoreHandles$Handle;)Z" } : Jvm.MethodName)) ∈ lw_all := lw_in 341 (by decide +kernel) rfl
theorem qw343 : (Jvm.Cond.instanceMethod ({ cls := "ScoreHandles$Maker", name := "isThirdTold", desc := "(LScoreHandles$Handle;)Z" } : Jvm.MethodName)) ∈ lw_all := lw_in 343 (by decide +kernel) rfl
theorem qw344 : (Jvm.Cond.code ({ cls := "ScoreHandles$Maker", name := "isThirdTold", desc := "(LScoreHandles$Handle;)Z" } : Jvm.MethodName) prog_5_method_5_code (2 : Nat) (Option.some Jvm.ClassFile.FieldType.boolean)) ∈ lw_all := lw_in 344 (by decide +kernel) rfl
theorem qw345 : (Jvm.Cond.methodLink "ScoreHandles$Maker" (41 : Nat) ({ cls := "ScoreHandles$Maker", name := "kindOfBits", desc := "(LScoreHandles$Handle;)I" } : Jvm.MethodName)) ∈ lw_all := lw_in 345 (by decide +kernel) rfl
theorem qw347 : (Jvm.Cond.instanceMethod ({ cls := "ScoreHandles$Maker", name := "kindOfBits", desc := "(LScoreHandles$Handle;)I" } : Jvm.MethodName)) ∈ lw_all := lw_in 347 (by decide +kernel) rfl
theorem qw348 : (Jvm.Cond.code ({ cls := "ScoreHandles$Maker", name := "kindOfBits", desc := "(LScoreHandles$Handle;)I" } : Jvm.MethodName) prog_5_method_8_code (3 : Nat) (Option.some Jvm.ClassFile.FieldType.int)) ∈ lw_all := lw_in 348 (by decide +kernel) rfl
theorem qn349 : (Jvm.Cond.methodLinkNest "ScoreHandles$Maker" (99 : Nat) ({ cls := "ScoreHandles$Type", name := "kind", desc := "(I)I" } : Jvm.MethodName) "ScoreHandles") ∈ lw_nest := lw_inN 349 (by decide +kernel) rfl
theorem qw351 : (Jvm.Cond.instanceMethod ({ cls := "ScoreHandles$Type", name := "kind", desc := "(I)I" } : Jvm.MethodName)) ∈ lw_all := lw_in 351 (by decide +kernel) rfl
theorem qw352 : (Jvm.Cond.code ({ cls := "ScoreHandles$Type", name := "kind", desc := "(I)I" } : Jvm.MethodName) prog_11_method_3_code (3 : Nat) (Option.some Jvm.ClassFile.FieldType.int)) ∈ lw_all := lw_in 352 (by decide +kernel) rfl
theorem qn353 : (Jvm.Cond.methodLinkNest "ScoreHandles$Maker" (49 : Nat) ({ cls := "ScoreHandles$Rows", name := "mayBe", desc := "(IJ)Z" } : Jvm.MethodName) "ScoreHandles") ∈ lw_nest := lw_inN 353 (by decide +kernel) rfl
theorem qw355 : (Jvm.Cond.instanceMethod ({ cls := "ScoreHandles$Rows", name := "mayBe", desc := "(IJ)Z" } : Jvm.MethodName)) ∈ lw_all := lw_in 355 (by decide +kernel) rfl
theorem qw356 : (Jvm.Cond.code ({ cls := "ScoreHandles$Rows", name := "mayBe", desc := "(IJ)Z" } : Jvm.MethodName) prog_8_method_4_code (5 : Nat) (Option.some Jvm.ClassFile.FieldType.boolean)) ∈ lw_all := lw_in 356 (by decide +kernel) rfl
theorem qn357 : (Jvm.Cond.methodLinkNest "ScoreHandles$Rows" (24 : Nat) ({ cls := "ScoreHandles$Kind", name := "isRow", desc := "(I)Z" } : Jvm.MethodName) "ScoreHandles") ∈ lw_nest := lw_inN 357 (by decide +kernel) rfl
theorem qw358 : (Jvm.Cond.static ({ cls := "ScoreHandles$Kind", name := "isRow", desc := "(I)Z" } : Jvm.MethodName)) ∈ lw_all := lw_in 358 (by decide +kernel) rfl
theorem qw359 : (Jvm.Cond.code ({ cls := "ScoreHandles$Kind", name := "isRow", desc := "(I)Z" } : Jvm.MethodName) prog_4_method_5_code (1 : Nat) (Option.some Jvm.ClassFile.FieldType.boolean)) ∈ lw_all := lw_in 359 (by decide +kernel) rfl
theorem qw360 : (Jvm.Cond.constantLong "ScoreHandles$Rows" (30 : Nat) (-1 : Int64)) ∈ lw_all := lw_in 360 (by decide +kernel) rfl
theorem qw361 : (Jvm.Cond.methodLink "ScoreHandles$Rows" (32 : Nat) ({ cls := "ScoreHandles$Rows", name := "at", desc := "(J)LScoreHandles$Row;" } : Jvm.MethodName)) ∈ lw_all := lw_in 361 (by decide +kernel) rfl
theorem qn362 : (Jvm.Cond.methodLinkNest "ScoreHandles" (104 : Nat) ({ cls := "ScoreHandles$Maker", name := "typeOf", desc := "(LScoreHandles$Handle;LScoreHandles$Type;)LScoreHandles$Type;" } : Jvm.MethodName) "ScoreHandles") ∈ lw_nest := lw_inN 362 (by decide +kernel) rfl
theorem qw364 : (Jvm.Cond.instanceMethod ({ cls := "ScoreHandles$Maker", name := "typeOf", desc := "(LScoreHandles$Handle;LScoreHandles$Type;)LScoreHandles$Type;" } : Jvm.MethodName)) ∈ lw_all := lw_in 364 (by decide +kernel) rfl
theorem qw365 : (Jvm.Cond.code ({ cls := "ScoreHandles$Maker", name := "typeOf", desc := "(LScoreHandles$Handle;LScoreHandles$Type;)LScoreHandles$Type;" } : Jvm.MethodName) prog_5_method_10_code (5 : Nat) (Option.some (Jvm.ClassFile.FieldType.object "ScoreHandles$Type"))) ∈ lw_all := lw_in 365 (by decide +kernel) rfl
theorem qw366 : (Jvm.Cond.methodLink "ScoreHandles$Maker" (106 : Nat) ({ cls := "ScoreHandles$Maker", name := "typeAlone", desc := "(LScoreHandles$Handle;)LScoreHandles$Type;" } : Jvm.MethodName)) ∈ lw_all := lw_in 366 (by decide +kernel) rfl
theorem qw367 : (Jvm.Cond.static ({ cls := "ScoreHandles$Maker", name := "typeAlone", desc := "(LScoreHandles$Handle;)LScoreHandles$Type;" } : Jvm.MethodName)) ∈ lw_all := lw_in 367 (by decide +kernel) rfl
theorem qw368 : (Jvm.Cond.code ({ cls := "ScoreHandles$Maker", name := "typeAlone", desc := "(LScoreHandles$Handle;)LScoreHandles$Type;" } : Jvm.MethodName) prog_5_method_11_code (3 : Nat) (Option.some (Jvm.ClassFile.FieldType.object "ScoreHandles$Type"))) ∈ lw_all := lw_in 368 (by decide +kernel) rfl
theorem qn369 : (Jvm.Cond.methodLinkNest "ScoreHandles$Maker" (132 : Nat) ({ cls := "ScoreHandles$Type", name := "of", desc := "(IIIII)LScoreHandles$Type;" } : Jvm.MethodName) "ScoreHandles") ∈ lw_nest := lw_inN 369 (by decide +kernel) rfl
theorem qw370 : (Jvm.Cond.static ({ cls := "ScoreHandles$Type", name := "of", desc := "(IIIII)LScoreHandles$Type;" } : Jvm.MethodName)) ∈ lw_all := lw_in 370 (by decide +kernel) rfl
theorem qw371 : (Jvm.Cond.code ({ cls := "ScoreHandles$Type", name := "of", desc := "(IIIII)LScoreHandles$Type;" } : Jvm.MethodName) prog_11_method_2_code (6 : Nat) (Option.some (Jvm.ClassFile.FieldType.object "ScoreHandles$Type"))) ∈ lw_all := lw_in 371 (by decide +kernel) rfl
theorem qw372 : (Jvm.Cond.classLink "ScoreHandles$Type" (10 : Nat) "ScoreHandles$Type") ∈ lw_all := lw_in 372 (by decide +kernel) rfl
theorem qw373 : (Jvm.Cond.methodLink "ScoreHandles$Type" (22 : Nat) ({ cls := "ScoreHandles$Type", name := "<init>", desc := "(II[I)V" } : Jvm.MethodName)) ∈ lw_all := lw_in 373 (by decide +kernel) rfl
theorem qn374 : (Jvm.Cond.methodLinkNest "ScoreHandles$Maker" (110 : Nat) ({ cls := "ScoreHandles$Type", name := "longer", desc := "(II)LScoreHandles$Type;" } : Jvm.MethodName) "ScoreHandles") ∈ lw_nest := lw_inN 374 (by decide +kernel) rfl
theorem qw376 : (Jvm.Cond.instanceMethod ({ cls := "ScoreHandles$Type", name := "longer", desc := "(II)LScoreHandles$Type;" } : Jvm.MethodName)) ∈ lw_all := lw_in 376 (by decide +kernel) rfl
theorem qw377 : (Jvm.Cond.code ({ cls := "ScoreHandles$Type", name := "longer", desc := "(II)LScoreHandles$Type;" } : Jvm.MethodName) prog_11_method_10_code (5 : Nat) (Option.some (Jvm.ClassFile.FieldType.object "ScoreHandles$Type"))) ∈ lw_all := lw_in 377 (by decide +kernel) rfl
theorem qw378 : (Jvm.Cond.methodLink "ScoreHandles$Type" (35 : Nat) ({ cls := "ScoreHandles$Type", name := "kind", desc := "(I)I" } : Jvm.MethodName)) ∈ lw_all := lw_in 378 (by decide +kernel) rfl
theorem qw379 : (Jvm.Cond.methodLink "ScoreHandles$Type" (43 : Nat) ({ cls := "java/lang/Math", name := "min", desc := "(II)I" } : Jvm.MethodName)) ∈ lw_all := lw_in 379 (by decide +kernel) rfl
theorem qn380 : (Jvm.Cond.methodLinkNest "ScoreHandles$Maker" (114 : Nat) ({ cls := "ScoreHandles$Type", name := "swapped", desc := "(I)LScoreHandles$Type;" } : Jvm.MethodName) "ScoreHandles") ∈ lw_nest := lw_inN 380 (by decide +kernel) rfl
theorem qw382 : (Jvm.Cond.instanceMethod ({ cls := "ScoreHandles$Type", name := "swapped", desc := "(I)LScoreHandles$Type;" } : Jvm.MethodName)) ∈ lw_all := lw_in 382 (by decide +kernel) rfl
theorem qw383 : (Jvm.Cond.code ({ cls := "ScoreHandles$Type", name := "swapped", desc := "(I)LScoreHandles$Type;" } : Jvm.MethodName) prog_11_method_9_code (2 : Nat) (Option.some (Jvm.ClassFile.FieldType.object "ScoreHandles$Type"))) ∈ lw_all := lw_in 383 (by decide +kernel) rfl
theorem qw384 : (Jvm.Cond.methodLink "ScoreHandles$Type" (39 : Nat) ({ cls := "ScoreHandles$Type", name := "changed", desc := "(II)LScoreHandles$Type;" } : Jvm.MethodName)) ∈ lw_all := lw_in 384 (by decide +kernel) rfl
theorem qw386 : (Jvm.Cond.instanceMethod ({ cls := "ScoreHandles$Type", name := "changed", desc := "(II)LScoreHandles$Type;" } : Jvm.MethodName)) ∈ lw_all := lw_in 386 (by decide +kernel) rfl
theorem qw387 : (Jvm.Cond.code ({ cls := "ScoreHandles$Type", name := "changed", desc := "(II)LScoreHandles$Type;" } : Jvm.MethodName) prog_11_method_8_code (5 : Nat) (Option.some (Jvm.ClassFile.FieldType.object "ScoreHandles$Type"))) ∈ lw_all := lw_in 387 (by decide +kernel) rfl
theorem qn388 : (Jvm.Cond.methodLinkNest "ScoreHandles$Maker" (117 : Nat) ({ cls := "ScoreHandles$Type", name := "withoutFirst", desc := "()LScoreHandles$Type;" } : Jvm.MethodName) "ScoreHandles") ∈ lw_nest := lw_inN 388 (by decide +kernel) rfl
theorem qw390 : (Jvm.Cond.instanceMethod ({ cls := "ScoreHandles$Type", name := "withoutFirst", desc := "()LScoreHandles$Type;" } : Jvm.MethodName)) ∈ lw_all := lw_in 390 (by decide +kernel) rfl
theorem qw391 : (Jvm.Cond.code ({ cls := "ScoreHandles$Type", name := "withoutFirst", desc := "()LScoreHandles$Type;" } : Jvm.MethodName) prog_11_method_11_code (3 : Nat) (Option.some (Jvm.ClassFile.FieldType.object "ScoreHandles$Type"))) ∈ lw_all := lw_in 391 (by decide +kernel) rfl
theorem qw392 : (Jvm.Cond.methodLink "ScoreHandles$Type" (49 : Nat) ({ cls := "java/lang/Math", name := "max", desc := "(II)I" } : Jvm.MethodName)) ∈ lw_all := lw_in 392 (by decide +kernel) rfl
theorem qn393 : (Jvm.Cond.methodLinkNest "ScoreHandles$Maker" (124 : Nat) ({ cls := "ScoreHandles$Type", name := "goesTo", desc := "(LScoreHandles$Type;)Z" } : Jvm.MethodName) "ScoreHandles") ∈ lw_nest := lw_inN 393 (by decide +kernel) rfl
theorem qw395 : (Jvm.Cond.instanceMethod ({ cls := "ScoreHandles$Type", name := "goesTo", desc := "(LScoreHandles$Type;)Z" } : Jvm.MethodName)) ∈ lw_all := lw_in 395 (by decide +kernel) rfl
theorem qw396 : (Jvm.Cond.code ({ cls := "ScoreHandles$Type", name := "goesTo", desc := "(LScoreHandles$Type;)Z" } : Jvm.MethodName) prog_11_method_5_code (3 : Nat) (Option.some Jvm.ClassFile.FieldType.boolean)) ∈ lw_all := lw_in 396 (by decide +kernel) rfl
theorem qn397 : (Jvm.Cond.methodLinkNest "ScoreHandles$Type" (31 : Nat) ({ cls := "ScoreHandles$Kind", name := "goes", desc := "(II)Z" } : Jvm.MethodName) "ScoreHandles") ∈ lw_nest := lw_inN 397 (by decide +kernel) rfl
theorem qw398 : (Jvm.Cond.static ({ cls := "ScoreHandles$Kind", name := "goes", desc := "(II)Z" } : Jvm.MethodName)) ∈ lw_all := lw_in 398 (by decide +kernel) rfl
theorem qw399 : (Jvm.Cond.code ({ cls := "ScoreHandles$Kind", name := "goes", desc := "(II)Z" } : Jvm.MethodName) prog_4_method_6_code (2 : Nat) (Option.some Jvm.ClassFile.FieldType.boolean)) ∈ lw_all := lw_in 399 (by decide +kernel) rfl
theorem qw400 : (Jvm.Cond.methodLink "ScoreHandles$Kind" (11 : Nat) ({ cls := "ScoreHandles$Kind", name := "isRow", desc := "(I)Z" } : Jvm.MethodName)) ∈ lw_all := lw_in 400 (by decide +kernel) rfl
theorem qw401 : (Jvm.Cond.methodLink "ScoreHandles$Maker" (128 : Nat) ({ cls := "ScoreHandles$Maker", name := "typeOfSome", desc := "(LScoreHandles$Handle;LScoreHandles$Type;)LScoreHandles$Type;" } : Jvm.MethodName)) ∈ lw_all := lw_in 401 (by decide +kernel) rfl
theorem qw403 : (Jvm.Cond.instanceMethod ({ cls := "ScoreHandles$Maker", name := "typeOfSome", desc := "(LScoreHandles$Handle;LScoreHandles$Type;)LScoreHandles$Type;" } : Jvm.MethodName)) ∈ lw_all := lw_in 403 (by decide +kernel) rfl
theorem qw404 : (Jvm.Cond.code ({ cls := "ScoreHandles$Maker", name := "typeOfSome", desc := "(LScoreHandles$Handle;LScoreHandles$Type;)LScoreHandles$Type;" } : Jvm.MethodName) prog_5_method_12_code (5 : Nat) (Option.some (Jvm.ClassFile.FieldType.object "ScoreHandles$Type"))) ∈ lw_all := lw_in 404 (by decide +kernel) rfl
theorem qw405 : (Jvm.Cond.methodLink "ScoreHandles$Maker" (136 : Nat) ({ cls := "ScoreHandles$Maker", name := "typeOfFilter", desc := "(LScoreHandles$Type;ILScoreHandles$Type;)LScoreHandles$Type;" } : Jvm.MethodName)) ∈ lw_all := lw_in 405 (by decide +kernel) rfl
theorem qw406 : (Jvm.Cond.static ({ cls := "ScoreHandles$Maker", name := "typeOfFilter", desc := "(LScoreHandles$Type;ILScoreHandles$Type;)LScoreHandles$Type;" } : Jvm.MethodName)) ∈ lw_all := lw_in 406 (by decide +kernel) rfl
theorem qw407 : (Jvm.Cond.code ({ cls := "ScoreHandles$Maker", name := "typeOfFilter", desc := "(LScoreHandles$Type;ILScoreHandles$Type;)LScoreHandles$Type;" } : Jvm.MethodName) prog_5_method_13_code (4 : Nat) (Option.some (Jvm.ClassFile.FieldType.object "ScoreHandles$Type"))) ∈ lw_all := lw_in 407 (by decide +kernel) rfl
theorem qn408 : (Jvm.Cond.methodLinkNest "ScoreHandles$Maker" (157 : Nat) ({ cls := "ScoreHandles$Type", name := "changed", desc := "(II)LScoreHandles$Type;" } : Jvm.MethodName) "ScoreHandles") ∈ lw_nest := lw_inN 408 (by decide +kernel) rfl
theorem qw409 : (Jvm.Cond.methodLink "ScoreHandles$Maker" (140 : Nat) ({ cls := "ScoreHandles$Maker", name := "typeOfFold", desc := "(LScoreHandles$Type;LScoreHandles$Type;)LScoreHandles$Type;" } : Jvm.MethodName)) ∈ lw_all := lw_in 409 (by decide +kernel) rfl
theorem qw410 : (Jvm.Cond.static ({ cls := "ScoreHandles$Maker", name := "typeOfFold", desc := "(LScoreHandles$Type;LScoreHandles$Type;)LScoreHandles$Type;" } : Jvm.MethodName)) ∈ lw_all := lw_in 410 (by decide +kernel) rfl
theorem qw411 : (Jvm.Cond.code ({ cls := "ScoreHandles$Maker", name := "typeOfFold", desc := "(LScoreHandles$Type;LScoreHandles$Type;)LScoreHandles$Type;" } : Jvm.MethodName) prog_5_method_14_code (3 : Nat) (Option.some (Jvm.ClassFile.FieldType.object "ScoreHandles$Type"))) ∈ lw_all := lw_in 411 (by decide +kernel) rfl
theorem qn412 : (Jvm.Cond.methodLinkNest "ScoreHandles$Maker" (160 : Nat) ({ cls := "ScoreHandles$Type", name := "isFirstOf", desc := "(LScoreHandles$Type;II)Z" } : Jvm.MethodName) "ScoreHandles") ∈ lw_nest := lw_inN 412 (by decide +kernel) rfl
theorem qw414 : (Jvm.Cond.instanceMethod ({ cls := "ScoreHandles$Type", name := "isFirstOf", desc := "(LScoreHandles$Type;II)Z" } : Jvm.MethodName)) ∈ lw_all := lw_in 414 (by decide +kernel) rfl
theorem qw415 : (Jvm.Cond.code ({ cls := "ScoreHandles$Type", name := "isFirstOf", desc := "(LScoreHandles$Type;II)Z" } : Jvm.MethodName) prog_11_method_6_code (5 : Nat) (Option.some Jvm.ClassFile.FieldType.boolean)) ∈ lw_all := lw_in 415 (by decide +kernel) rfl
theorem qw416 : (Jvm.Cond.methodLink "ScoreHandles$Maker" (144 : Nat) ({ cls := "ScoreHandles$Maker", name := "typeOfThen", desc := "(LScoreHandles$Type;LScoreHandles$Type;)LScoreHandles$Type;" } : Jvm.MethodName)) ∈ lw_all := lw_in 416 (by decide +kernel) rfl
theorem qw417 : (Jvm.Cond.static ({ cls := "ScoreHandles$Maker", name := "typeOfThen", desc := "(LScoreHandles$Type;LScoreHandles$Type;)LScoreHandles$Type;" } : Jvm.MethodName)) ∈ lw_all := lw_in 417 (by decide +kernel) rfl
theorem qw418 : (Jvm.Cond.code ({ cls := "ScoreHandles$Maker", name := "typeOfThen", desc := "(LScoreHandles$Type;LScoreHandles$Type;)LScoreHandles$Type;" } : Jvm.MethodName) prog_5_method_15_code (3 : Nat) (Option.some (Jvm.ClassFile.FieldType.object "ScoreHandles$Type"))) ∈ lw_all := lw_in 418 (by decide +kernel) rfl
theorem qn419 : (Jvm.Cond.methodLinkNest "ScoreHandles$Maker" (164 : Nat) ({ cls := "ScoreHandles$Type", name := "giving", desc := "(I)LScoreHandles$Type;" } : Jvm.MethodName) "ScoreHandles") ∈ lw_nest := lw_inN 419 (by decide +kernel) rfl
theorem qw421 : (Jvm.Cond.instanceMethod ({ cls := "ScoreHandles$Type", name := "giving", desc := "(I)LScoreHandles$Type;" } : Jvm.MethodName)) ∈ lw_all := lw_in 421 (by decide +kernel) rfl
theorem qw422 : (Jvm.Cond.code ({ cls := "ScoreHandles$Type", name := "giving", desc := "(I)LScoreHandles$Type;" } : Jvm.MethodName) prog_11_method_7_code (2 : Nat) (Option.some (Jvm.ClassFile.FieldType.object "ScoreHandles$Type"))) ∈ lw_all := lw_in 422 (by decide +kernel) rfl
theorem qw423 : (Jvm.Cond.methodLink "ScoreHandles$Maker" (147 : Nat) ({ cls := "ScoreHandles$Maker", name := "typeOfGuard", desc := "(LScoreHandles$Type;LScoreHandles$Type;LScoreHandles$Type;)LScoreHandles$Type;" } : Jvm.MethodName)) ∈ lw_all := lw_in 423 (by decide +kernel) rfl
theorem qw424 : (Jvm.Cond.static ({ cls := "ScoreHandles$Maker", name := "typeOfGuard", desc := "(LScoreHandles$Type;LScoreHandles$Type;LScoreHandles$Type;)LScoreHandles$Type;" } : Jvm.MethodName)) ∈ lw_all := lw_in 424 (by decide +kernel) rfl
theorem qw425 : (Jvm.Cond.code ({ cls := "ScoreHandles$Maker", name := "typeOfGuard", desc := "(LScoreHandles$Type;LScoreHandles$Type;LScoreHandles$Type;)LScoreHandles$Type;" } : Jvm.MethodName) prog_5_method_16_code (4 : Nat) (Option.some (Jvm.ClassFile.FieldType.object "ScoreHandles$Type"))) ∈ lw_all := lw_in 425 (by decide +kernel) rfl
theorem qn426 : (Jvm.Cond.methodLinkNest "ScoreHandles$Maker" (167 : Nat) ({ cls := "ScoreHandles$Type", name := "isSame", desc := "(LScoreHandles$Type;)Z" } : Jvm.MethodName) "ScoreHandles") ∈ lw_nest := lw_inN 426 (by decide +kernel) rfl
theorem qw428 : (Jvm.Cond.instanceMethod ({ cls := "ScoreHandles$Type", name := "isSame", desc := "(LScoreHandles$Type;)Z" } : Jvm.MethodName)) ∈ lw_all := lw_in 428 (by decide +kernel) rfl
theorem qw429 : (Jvm.Cond.code ({ cls := "ScoreHandles$Type", name := "isSame", desc := "(LScoreHandles$Type;)Z" } : Jvm.MethodName) prog_11_method_4_code (2 : Nat) (Option.some Jvm.ClassFile.FieldType.boolean)) ∈ lw_all := lw_in 429 (by decide +kernel) rfl
theorem qw430 : (Jvm.Cond.methodLink "ScoreHandles$Type" (27 : Nat) ({ cls := "ScoreHandles$Type", name := "isFirstOf", desc := "(LScoreHandles$Type;II)Z" } : Jvm.MethodName)) ∈ lw_all := lw_in 430 (by decide +kernel) rfl
theorem qw431 : (Jvm.Cond.methodLink "ScoreHandles$Maker" (151 : Nat) ({ cls := "ScoreHandles$Maker", name := "typeOfCatch", desc := "(LScoreHandles$Type;LScoreHandles$Type;)LScoreHandles$Type;" } : Jvm.MethodName)) ∈ lw_all := lw_in 431 (by decide +kernel) rfl
theorem qw432 : (Jvm.Cond.static ({ cls := "ScoreHandles$Maker", name := "typeOfCatch", desc := "(LScoreHandles$Type;LScoreHandles$Type;)LScoreHandles$Type;" } : Jvm.MethodName)) ∈ lw_all := lw_in 432 (by decide +kernel) rfl
theorem qw433 : (Jvm.Cond.code ({ cls := "ScoreHandles$Maker", name := "typeOfCatch", desc := "(LScoreHandles$Type;LScoreHandles$Type;)LScoreHandles$Type;" } : Jvm.MethodName) prog_5_method_17_code (3 : Nat) (Option.some (Jvm.ClassFile.FieldType.object "ScoreHandles$Type"))) ∈ lw_all := lw_in 433 (by decide +kernel) rfl
theorem qw434 : (Jvm.Cond.methodLink "ScoreHandles$Maker" (154 : Nat) ({ cls := "ScoreHandles$Maker", name := "typeOfLast", desc := "(LScoreHandles$Type;LScoreHandles$Type;)LScoreHandles$Type;" } : Jvm.MethodName)) ∈ lw_all := lw_in 434 (by decide +kernel) rfl
theorem qw435 : (Jvm.Cond.static ({ cls := "ScoreHandles$Maker", name := "typeOfLast", desc := "(LScoreHandles$Type;LScoreHandles$Type;)LScoreHandles$Type;" } : Jvm.MethodName)) ∈ lw_all := lw_in 435 (by decide +kernel) rfl
theorem qw436 : (Jvm.Cond.code ({ cls := "ScoreHandles$Maker", name := "typeOfLast", desc := "(LScoreHandles$Type;LScoreHandles$Type;)LScoreHandles$Type;" } : Jvm.MethodName) prog_5_method_18_code (3 : Nat) (Option.some (Jvm.ClassFile.FieldType.object "ScoreHandles$Type"))) ∈ lw_all := lw_in 436 (by decide +kernel) rfl
theorem qn437 : (Jvm.Cond.methodLinkNest "ScoreHandles" (108 : Nat) ({ cls := "ScoreHandles$Maker", name := "bitsOf", desc := "(LScoreHandles$Handle;)J" } : Jvm.MethodName) "ScoreHandles") ∈ lw_nest := lw_inN 437 (by decide +kernel) rfl
theorem qw439 : (Jvm.Cond.instanceMethod ({ cls := "ScoreHandles$Maker", name := "bitsOf", desc := "(LScoreHandles$Handle;)J" } : Jvm.MethodName)) ∈ lw_all := lw_in 439 (by decide +kernel) rfl
theorem qw440 : (Jvm.Cond.code ({ cls := "ScoreHandles$Maker", name := "bitsOf", desc := "(LScoreHandles$Handle;)J" } : Jvm.MethodName) prog_5_method_9_code (2 : Nat) (Option.some Jvm.ClassFile.FieldType.long)) ∈ lw_all := lw_in 440 (by decide +kernel) rfl
theorem qn441 : (Jvm.Cond.methodLinkNest "ScoreHandles$Maker" (102 : Nat) ({ cls := "ScoreHandles$Kind", name := "fromBits", desc := "(IJ)J" } : Jvm.MethodName) "ScoreHandles") ∈ lw_nest := lw_inN 441 (by decide +kernel) rfl
theorem qn442 : (Jvm.Cond.methodLinkNest "ScoreHandles" (112 : Nat) ({ cls := "ScoreHandles$Handle", name := "settle", desc := "(LScoreHandles$Type;J)V" } : Jvm.MethodName) "ScoreHandles") ∈ lw_nest := lw_inN 442 (by decide +kernel) rfl
theorem qw444 : (Jvm.Cond.instanceMethod ({ cls := "ScoreHandles$Handle", name := "settle", desc := "(LScoreHandles$Type;J)V" } : Jvm.MethodName)) ∈ lw_all := lw_in 444 (by decide +kernel) rfl
theorem qw445 : (Jvm.Cond.code ({ cls := "ScoreHandles$Handle", name := "settle", desc := "(LScoreHandles$Type;J)V" } : Jvm.MethodName) prog_2_method_2_code (4 : Nat) (Option.none : Option Jvm.ClassFile.FieldType)) ∈ lw_all := lw_in 445 (by decide +kernel) rfl
theorem qn446 : (Jvm.Cond.methodLinkNest "ScoreHandles" (116 : Nat) ({ cls := "ScoreHandles$Handles", name := "numberOf", desc := "(LScoreHandles$Handle;)I" } : Jvm.MethodName) "ScoreHandles") ∈ lw_nest := lw_inN 446 (by decide +kernel) rfl
theorem qw448 : (Jvm.Cond.instanceMethod ({ cls := "ScoreHandles$Handles", name := "numberOf", desc := "(LScoreHandles$Handle;)I" } : Jvm.MethodName)) ∈ lw_all := lw_in 448 (by decide +kernel) rfl
theorem qw449 : (Jvm.Cond.code ({ cls := "ScoreHandles$Handles", name := "numberOf", desc := "(LScoreHandles$Handle;)I" } : Jvm.MethodName) prog_3_method_4_code (4 : Nat) (Option.some Jvm.ClassFile.FieldType.int)) ∈ lw_all := lw_in 449 (by decide +kernel) rfl
theorem qn450 : (Jvm.Cond.methodLinkNest "ScoreHandles$Handles" (29 : Nat) ({ cls := "ScoreHandles$Handle", name := "isMadeAs", desc := "(LScoreHandles$Handle;)Z" } : Jvm.MethodName) "ScoreHandles") ∈ lw_nest := lw_inN 450 (by decide +kernel) rfl
theorem qw452 : (Jvm.Cond.instanceMethod ({ cls := "ScoreHandles$Handle", name := "isMadeAs", desc := "(LScoreHandles$Handle;)Z" } : Jvm.MethodName)) ∈ lw_all := lw_in 452 (by decide +kernel) rfl
theorem qw453 : (Jvm.Cond.code ({ cls := "ScoreHandles$Handle", name := "isMadeAs", desc := "(LScoreHandles$Handle;)Z" } : Jvm.MethodName) prog_2_method_3_code (2 : Nat) (Option.some Jvm.ClassFile.FieldType.boolean)) ∈ lw_all := lw_in 453 (by decide +kernel) rfl
theorem qn454 : (Jvm.Cond.methodLinkNest "ScoreHandles$Handle" (43 : Nat) ({ cls := "ScoreHandles$Type", name := "isSame", desc := "(LScoreHandles$Type;)Z" } : Jvm.MethodName) "ScoreHandles") ∈ lw_nest := lw_inN 454 (by decide +kernel) rfl
theorem qw455 : (Jvm.Cond.methodLink "ScoreHandlesLaw" (45 : Nat) ({ cls := "ScoreHandles", name := "told", desc := "(II)I" } : Jvm.MethodName)) ∈ lw_all := lw_in 455 (by decide +kernel) rfl
theorem qw456 : (Jvm.Cond.instanceMethod ({ cls := "ScoreHandles", name := "told", desc := "(II)I" } : Jvm.MethodName)) ∈ lw_all := lw_in 456 (by decide +kernel) rfl
theorem qw457 : (Jvm.Cond.selects "ScoreHandles" ({ cls := "ScoreHandles", name := "told", desc := "(II)I" } : Jvm.MethodName) ({ cls := "ScoreHandles", name := "told", desc := "(II)I" } : Jvm.MethodName)) ∈ lw_all := lw_in 457 (by decide +kernel) rfl
theorem qw458 : (Jvm.Cond.code ({ cls := "ScoreHandles", name := "told", desc := "(II)I" } : Jvm.MethodName) prog_1_method_8_code (5 : Nat) (Option.some Jvm.ClassFile.FieldType.int)) ∈ lw_all := lw_in 458 (by decide +kernel) rfl
theorem qn459 : (Jvm.Cond.methodLinkNest "ScoreHandles" (120 : Nat) ({ cls := "ScoreHandles$Handles", name := "at", desc := "(I)LScoreHandles$Handle;" } : Jvm.MethodName) "ScoreHandles") ∈ lw_nest := lw_inN 459 (by decide +kernel) rfl
theorem qn460 : (Jvm.Cond.methodLinkNest "ScoreHandles" (134 : Nat) ({ cls := "ScoreHandles$Type", name := "kind", desc := "(I)I" } : Jvm.MethodName) "ScoreHandles") ∈ lw_nest := lw_inN 460 (by decide +kernel) rfl
theorem qw461 : (Jvm.Cond.methodLink "ScoreHandlesLaw" (49 : Nat) ({ cls := "ScoreHandles", name := "fits", desc := "(I)I" } : Jvm.MethodName)) ∈ lw_all := lw_in 461 (by decide +kernel) rfl
theorem qw462 : (Jvm.Cond.instanceMethod ({ cls := "ScoreHandles", name := "fits", desc := "(I)I" } : Jvm.MethodName)) ∈ lw_all := lw_in 462 (by decide +kernel) rfl
theorem qw463 : (Jvm.Cond.selects "ScoreHandles" ({ cls := "ScoreHandles", name := "fits", desc := "(I)I" } : Jvm.MethodName) ({ cls := "ScoreHandles", name := "fits", desc := "(I)I" } : Jvm.MethodName)) ∈ lw_all := lw_in 463 (by decide +kernel) rfl
theorem qw464 : (Jvm.Cond.code ({ cls := "ScoreHandles", name := "fits", desc := "(I)I" } : Jvm.MethodName) prog_1_method_9_code (3 : Nat) (Option.some Jvm.ClassFile.FieldType.int)) ∈ lw_all := lw_in 464 (by decide +kernel) rfl
theorem qn465 : (Jvm.Cond.methodLinkNest "ScoreHandles" (138 : Nat) ({ cls := "ScoreHandles$Type", name := "isSame", desc := "(LScoreHandles$Type;)Z" } : Jvm.MethodName) "ScoreHandles") ∈ lw_nest := lw_inN 465 (by decide +kernel) rfl
theorem qn466 : (Jvm.Cond.methodLinkNest "ScoreHandles" (142 : Nat) ({ cls := "ScoreHandles$Type", name := "goesTo", desc := "(LScoreHandles$Type;)Z" } : Jvm.MethodName) "ScoreHandles") ∈ lw_nest := lw_inN 466 (by decide +kernel) rfl
theorem qw467 : (Jvm.Cond.methodLink "ScoreHandlesLaw" (53 : Nat) ({ cls := "ScoreHandles", name := "give", desc := "(IJ)I" } : Jvm.MethodName)) ∈ lw_all := lw_in 467 (by decide +kernel) rfl
theorem qw468 : (Jvm.Cond.instanceMethod ({ cls := "ScoreHandles", name := "give", desc := "(IJ)I" } : Jvm.MethodName)) ∈ lw_all := lw_in 468 (by decide +kernel) rfl
theorem qw469 : (Jvm.Cond.selects "ScoreHandles" ({ cls := "ScoreHandles", name := "give", desc := "(IJ)I" } : Jvm.MethodName) ({ cls := "ScoreHandles", name := "give", desc := "(IJ)I" } : Jvm.MethodName)) ∈ lw_all := lw_in 469 (by decide +kernel) rfl
theorem qw470 : (Jvm.Cond.code ({ cls := "ScoreHandles", name := "give", desc := "(IJ)I" } : Jvm.MethodName) prog_1_method_10_code (4 : Nat) (Option.some Jvm.ClassFile.FieldType.int)) ∈ lw_all := lw_in 470 (by decide +kernel) rfl
theorem qw471 : (Jvm.Cond.methodLink "ScoreHandlesLaw" (58 : Nat) ({ cls := "ScoreHandles", name := "run", desc := "(IZ)I" } : Jvm.MethodName)) ∈ lw_all := lw_in 471 (by decide +kernel) rfl
theorem qw472 : (Jvm.Cond.instanceMethod ({ cls := "ScoreHandles", name := "run", desc := "(IZ)I" } : Jvm.MethodName)) ∈ lw_all := lw_in 472 (by decide +kernel) rfl
theorem qw473 : (Jvm.Cond.selects "ScoreHandles" ({ cls := "ScoreHandles", name := "run", desc := "(IZ)I" } : Jvm.MethodName) ({ cls := "ScoreHandles", name := "run", desc := "(IZ)I" } : Jvm.MethodName)) ∈ lw_all := lw_in 473 (by decide +kernel) rfl
theorem qw474 : (Jvm.Cond.code ({ cls := "ScoreHandles", name := "run", desc := "(IZ)I" } : Jvm.MethodName) prog_1_method_11_code (6 : Nat) (Option.some Jvm.ClassFile.FieldType.int)) ∈ lw_all := lw_in 474 (by decide +kernel) rfl
theorem qw475 : (Jvm.Cond.methodLink "ScoreHandles" (145 : Nat) ({ cls := "ScoreHandles", name := "givenRowsAreThere", desc := "()Z" } : Jvm.MethodName)) ∈ lw_all := lw_in 475 (by decide +kernel) rfl
theorem qw477 : (Jvm.Cond.instanceMethod ({ cls := "ScoreHandles", name := "givenRowsAreThere", desc := "()Z" } : Jvm.MethodName)) ∈ lw_all := lw_in 477 (by decide +kernel) rfl
theorem qw478 : (Jvm.Cond.code ({ cls := "ScoreHandles", name := "givenRowsAreThere", desc := "()Z" } : Jvm.MethodName) prog_1_method_15_code (2 : Nat) (Option.some Jvm.ClassFile.FieldType.boolean)) ∈ lw_all := lw_in 478 (by decide +kernel) rfl
theorem qn479 : (Jvm.Cond.methodLinkNest "ScoreHandles" (184 : Nat) ({ cls := "ScoreHandles$Rows", name := "mayBe", desc := "(IJ)Z" } : Jvm.MethodName) "ScoreHandles") ∈ lw_nest := lw_inN 479 (by decide +kernel) rfl
theorem qn480 : (Jvm.Cond.methodLinkNest "ScoreHandles" (152 : Nat) ({ cls := "ScoreHandles$Runner", name := "forget", desc := "()V" } : Jvm.MethodName) "ScoreHandles") ∈ lw_nest := lw_inN 480 (by decide +kernel) rfl
theorem qw482 : (Jvm.Cond.instanceMethod ({ cls := "ScoreHandles$Runner", name := "forget", desc := "()V" } : Jvm.MethodName)) ∈ lw_all := lw_in 482 (by decide +kernel) rfl
theorem qw483 : (Jvm.Cond.code ({ cls := "ScoreHandles$Runner", name := "forget", desc := "()V" } : Jvm.MethodName) prog_9_method_2_code (1 : Nat) (Option.none : Option Jvm.ClassFile.FieldType)) ∈ lw_all := lw_in 483 (by decide +kernel) rfl
theorem qw484 : (Jvm.Cond.methodLink "ScoreHandles" (155 : Nat) ({ cls := "ScoreHandles", name := "handOverNumbers", desc := "(LScoreHandles$Type;)V" } : Jvm.MethodName)) ∈ lw_all := lw_in 484 (by decide +kernel) rfl
theorem qw486 : (Jvm.Cond.instanceMethod ({ cls := "ScoreHandles", name := "handOverNumbers", desc := "(LScoreHandles$Type;)V" } : Jvm.MethodName)) ∈ lw_all := lw_in 486 (by decide +kernel) rfl
theorem qw487 : (Jvm.Cond.code ({ cls := "ScoreHandles", name := "handOverNumbers", desc := "(LScoreHandles$Type;)V" } : Jvm.MethodName) prog_1_method_16_code (6 : Nat) (Option.none : Option Jvm.ClassFile.FieldType)) ∈ lw_all := lw_in 487 (by decide +kernel) rfl
theorem qn488 : (Jvm.Cond.methodLinkNest "ScoreHandles" (166 : Nat) ({ cls := "ScoreHandles$Kind", name := "widened", desc := "(IIJ)J" } : Jvm.MethodName) "ScoreHandles") ∈ lw_nest := lw_inN 488 (by decide +kernel) rfl
theorem qw489 : (Jvm.Cond.static ({ cls := "ScoreHandles$Kind", name := "widened", desc := "(IIJ)J" } : Jvm.MethodName)) ∈ lw_all := lw_in 489 (by decide +kernel) rfl
theorem qw490 : (Jvm.Cond.code ({ cls := "ScoreHandles$Kind", name := "widened", desc := "(IIJ)J" } : Jvm.MethodName) prog_4_method_8_code (4 : Nat) (Option.some Jvm.ClassFile.FieldType.long)) ∈ lw_all := lw_in 490 (by decide +kernel) rfl
theorem qn491 : (Jvm.Cond.methodLinkNest "ScoreHandles$Kind" (28 : Nat) ({ cls := "ScoreHandles$Real", name := "fromWhole", desc := "(J)J" } : Jvm.MethodName) "ScoreHandles") ∈ lw_nest := lw_inN 491 (by decide +kernel) rfl
theorem qw493 : (Jvm.Cond.instanceMethod ({ cls := "ScoreHandles$Real", name := "fromWhole", desc := "(J)J" } : Jvm.MethodName)) ∈ lw_all := lw_in 493 (by decide +kernel) rfl
theorem qw494 : (Jvm.Cond.code ({ cls := "ScoreHandles$Real", name := "fromWhole", desc := "(J)J" } : Jvm.MethodName) prog_6_method_19_code (3 : Nat) (Option.some Jvm.ClassFile.FieldType.long)) ∈ lw_all := lw_in 494 (by decide +kernel) rfl
theorem qw495 : (Jvm.Cond.constantLong "ScoreHandles$Real" (105 : Nat) (-9223372036854775808 : Int64)) ∈ lw_all := lw_in 495 (by decide +kernel) rfl
theorem qw496 : (Jvm.Cond.constantLong "ScoreHandles$Real" (107 : Nat) (4611686018427387904 : Int64)) ∈ lw_all := lw_in 496 (by decide +kernel) rfl
theorem qw497 : (Jvm.Cond.methodLink "ScoreHandles$Real" (88 : Nat) ({ cls := "ScoreHandles$Real", name := "rounded", desc := "(ZJI)J" } : Jvm.MethodName)) ∈ lw_all := lw_in 497 (by decide +kernel) rfl
theorem qw499 : (Jvm.Cond.instanceMethod ({ cls := "ScoreHandles$Real", name := "rounded", desc := "(ZJI)J" } : Jvm.MethodName)) ∈ lw_all := lw_in 499 (by decide +kernel) rfl
theorem qw500 : (Jvm.Cond.code ({ cls := "ScoreHandles$Real", name := "rounded", desc := "(ZJI)J" } : Jvm.MethodName) prog_6_method_21_code (18 : Nat) (Option.some Jvm.ClassFile.FieldType.long)) ∈ lw_all := lw_in 500 (by decide +kernel) rfl
theorem qw501 : (Jvm.Cond.methodLink "ScoreHandles$Real" (99 : Nat) ({ cls := "ScoreHandles$Real", name := "roomAbove", desc := "(JI)I" } : Jvm.MethodName)) ∈ lw_all := lw_in 501 (by decide +kernel) rfl
theorem qw502 : (Jvm.Cond.static ({ cls := "ScoreHandles$Real", name := "roomAbove", desc := "(JI)I" } : Jvm.MethodName)) ∈ lw_all := lw_in 502 (by decide +kernel) rfl
theorem qw503 : (Jvm.Cond.code ({ cls := "ScoreHandles$Real", name := "roomAbove", desc := "(JI)I" } : Jvm.MethodName) prog_6_method_22_code (5 : Nat) (Option.some Jvm.ClassFile.FieldType.int)) ∈ lw_all := lw_in 503 (by decide +kernel) rfl
theorem qw504 : (Jvm.Cond.methodLink "ScoreHandles$Real" (81 : Nat) ({ cls := "ScoreHandles$Real", name := "signed", desc := "(ZJ)J" } : Jvm.MethodName)) ∈ lw_all := lw_in 504 (by decide +kernel) rfl
theorem qw506 : (Jvm.Cond.instanceMethod ({ cls := "ScoreHandles$Real", name := "signed", desc := "(ZJ)J" } : Jvm.MethodName)) ∈ lw_all := lw_in 506 (by decide +kernel) rfl
theorem qw507 : (Jvm.Cond.code ({ cls := "ScoreHandles$Real", name := "signed", desc := "(ZJ)J" } : Jvm.MethodName) prog_6_method_8_code (4 : Nat) (Option.some Jvm.ClassFile.FieldType.long)) ∈ lw_all := lw_in 507 (by decide +kernel) rfl
theorem qw508 : (Jvm.Cond.methodLink "ScoreHandles$Real" (85 : Nat) ({ cls := "java/lang/Math", name := "abs", desc := "(J)J" } : Jvm.MethodName)) ∈ lw_all := lw_in 508 (by decide +kernel) rfl
theorem qw509 : (Jvm.Cond.static ({ cls := "java/lang/Math", name := "abs", desc := "(J)J" } : Jvm.MethodName)) ∈ lw_all := lw_in 509 (by decide +kernel) rfl
theorem qw510 : (Jvm.Cond.code ({ cls := "java/lang/Math", name := "abs", desc := "(J)J" } : Jvm.MethodName) prog_17_method_61_code (2 : Nat) (Option.some Jvm.ClassFile.FieldType.long)) ∈ lw_all := lw_in 510 (by decide +kernel) rfl
theorem qn511 : (Jvm.Cond.methodLinkNest "ScoreHandles$Kind" (31 : Nat) ({ cls := "ScoreHandles$Real", name := "fromSingle", desc := "(J)J" } : Jvm.MethodName) "ScoreHandles") ∈ lw_nest := lw_inN 511 (by decide +kernel) rfl
theorem qw513 : (Jvm.Cond.instanceMethod ({ cls := "ScoreHandles$Real", name := "fromSingle", desc := "(J)J" } : Jvm.MethodName)) ∈ lw_all := lw_in 513 (by decide +kernel) rfl
theorem qw514 : (Jvm.Cond.code ({ cls := "ScoreHandles$Real", name := "fromSingle", desc := "(J)J" } : Jvm.MethodName) prog_6_method_20_code (6 : Nat) (Option.some Jvm.ClassFile.FieldType.long)) ∈ lw_all := lw_in 514 (by decide +kernel) rfl
theorem qw515 : (Jvm.Cond.fieldLink "ScoreHandles$Real" (3 : Nat) "ScoreHandles$Real" "SINGLE" "LScoreHandles$Real;") ∈ lw_all := lw_in 515 (by decide +kernel) rfl
theorem qw516 : (Jvm.Cond.methodLink "ScoreHandles$Real" (92 : Nat) ({ cls := "ScoreHandles$Real", name := "significand", desc := "(J)J" } : Jvm.MethodName)) ∈ lw_all := lw_in 516 (by decide +kernel) rfl
theorem qw518 : (Jvm.Cond.instanceMethod ({ cls := "ScoreHandles$Real", name := "significand", desc := "(J)J" } : Jvm.MethodName)) ∈ lw_all := lw_in 518 (by decide +kernel) rfl
theorem qw519 : (Jvm.Cond.code ({ cls := "ScoreHandles$Real", name := "significand", desc := "(J)J" } : Jvm.MethodName) prog_6_method_10_code (7 : Nat) (Option.some Jvm.ClassFile.FieldType.long)) ∈ lw_all := lw_in 519 (by decide +kernel) rfl
theorem qw520 : (Jvm.Cond.methodLink "ScoreHandles$Real" (73 : Nat) ({ cls := "ScoreHandles$Real", name := "power", desc := "(J)I" } : Jvm.MethodName)) ∈ lw_all := lw_in 520 (by decide +kernel) rfl
theorem qw522 : (Jvm.Cond.instanceMethod ({ cls := "ScoreHandles$Real", name := "power", desc := "(J)I" } : Jvm.MethodName)) ∈ lw_all := lw_in 522 (by decide +kernel) rfl
theorem qw523 : (Jvm.Cond.code ({ cls := "ScoreHandles$Real", name := "power", desc := "(J)I" } : Jvm.MethodName) prog_6_method_11_code (3 : Nat) (Option.some Jvm.ClassFile.FieldType.int)) ∈ lw_all := lw_in 523 (by decide +kernel) rfl
theorem qw524 : (Jvm.Cond.methodLink "ScoreHandles$Real" (60 : Nat) ({ cls := "java/lang/Math", name := "max", desc := "(II)I" } : Jvm.MethodName)) ∈ lw_all := lw_in 524 (by decide +kernel) rfl
theorem qn525 : (Jvm.Cond.methodLinkNest "ScoreHandles" (188 : Nat) ({ cls := "ScoreHandles$Runner", name := "hand", desc := "(IIJ)V" } : Jvm.MethodName) "ScoreHandles") ∈ lw_nest := lw_inN 525 (by decide +kernel) rfl
theorem qw527 : (Jvm.Cond.instanceMethod ({ cls := "ScoreHandles$Runner", name := "hand", desc := "(IIJ)V" } : Jvm.MethodName)) ∈ lw_all := lw_in 527 (by decide +kernel) rfl
theorem qw528 : (Jvm.Cond.code ({ cls := "ScoreHandles$Runner", name := "hand", desc := "(IIJ)V" } : Jvm.MethodName) prog_9_method_3_code (6 : Nat) (Option.none : Option Jvm.ClassFile.FieldType)) ∈ lw_all := lw_in 528 (by decide +kernel) rfl
theorem qw529 : (Jvm.Cond.methodLink "ScoreHandles$Runner" (36 : Nat) ({ cls := "ScoreHandles$Runner", name := "slot", desc := "(II)I" } : Jvm.MethodName)) ∈ lw_all := lw_in 529 (by decide +kernel) rfl
theorem qw530 : (Jvm.Cond.static ({ cls := "ScoreHandles$Runner", name := "slot", desc := "(II)I" } : Jvm.MethodName)) ∈ lw_all := lw_in 530 (by decide +kernel) rfl
theorem qw531 : (Jvm.Cond.code ({ cls := "ScoreHandles$Runner", name := "slot", desc := "(II)I" } : Jvm.MethodName) prog_9_method_5_code (3 : Nat) (Option.some Jvm.ClassFile.FieldType.int)) ∈ lw_all := lw_in 531 (by decide +kernel) rfl
theorem qn532 : (Jvm.Cond.methodLinkNest "ScoreHandles" (159 : Nat) ({ cls := "ScoreHandles$Runner", name := "perform", desc := "(II)J" } : Jvm.MethodName) "ScoreHandles") ∈ lw_nest := lw_inN 532 (by decide +kernel) rfl
theorem qw534 : (Jvm.Cond.instanceMethod ({ cls := "ScoreHandles$Runner", name := "perform", desc := "(II)J" } : Jvm.MethodName)) ∈ lw_all := lw_in 534 (by decide +kernel) rfl
theorem qw535 : (Jvm.Cond.code ({ cls := "ScoreHandles$Runner", name := "perform", desc := "(II)J" } : Jvm.MethodName) prog_9_method_9_code (4 : Nat) (Option.some Jvm.ClassFile.FieldType.long)) ∈ lw_all := lw_in 535 (by decide +kernel) rfl
theorem qn536 : (Jvm.Cond.methodLinkNest "ScoreHandles$Runner" (58 : Nat) ({ cls := "ScoreHandles$Handles", name := "at", desc := "(I)LScoreHandles$Handle;" } : Jvm.MethodName) "ScoreHandles") ∈ lw_nest := lw_inN 536 (by decide +kernel) rfl
theorem qw537 : (Jvm.Cond.methodLink "ScoreHandles$Runner" (64 : Nat) ({ cls := "ScoreHandles$Runner", name := "spent", desc := "(I)J" } : Jvm.MethodName)) ∈ lw_all := lw_in 537 (by decide +kernel) rfl
theorem qw539 : (Jvm.Cond.instanceMethod ({ cls := "ScoreHandles$Runner", name := "spent", desc := "(I)J" } : Jvm.MethodName)) ∈ lw_all := lw_in 539 (by decide +kernel) rfl
theorem qw540 : (Jvm.Cond.code ({ cls := "ScoreHandles$Runner", name := "spent", desc := "(I)J" } : Jvm.MethodName) prog_9_method_8_code (2 : Nat) (Option.some Jvm.ClassFile.FieldType.long)) ∈ lw_all := lw_in 540 (by decide +kernel) rfl
theorem qw541 : (Jvm.Cond.methodLink "ScoreHandles$Runner" (45 : Nat) ({ cls := "ScoreHandles$Runner", name := "taken", desc := "(II)J" } : Jvm.MethodName)) ∈ lw_all := lw_in 541 (by decide +kernel) rfl
theorem qw543 : (Jvm.Cond.instanceMethod ({ cls := "ScoreHandles$Runner", name := "taken", desc := "(II)J" } : Jvm.MethodName)) ∈ lw_all := lw_in 543 (by decide +kernel) rfl
theorem qw544 : (Jvm.Cond.code ({ cls := "ScoreHandles$Runner", name := "taken", desc := "(II)J" } : Jvm.MethodName) prog_9_method_4_code (4 : Nat) (Option.some Jvm.ClassFile.FieldType.long)) ∈ lw_all := lw_in 544 (by decide +kernel) rfl
theorem qw545 : (Jvm.Cond.methodLink "ScoreHandles$Runner" (74 : Nat) ({ cls := "ScoreHandles$Runner", name := "sum", desc := "(IJJ)J" } : Jvm.MethodName)) ∈ lw_all := lw_in 545 (by decide +kernel) rfl
theorem qw546 : (Jvm.Cond.static ({ cls := "ScoreHandles$Runner", name := "sum", desc := "(IJJ)J" } : Jvm.MethodName)) ∈ lw_all := lw_in 546 (by decide +kernel) rfl
theorem qw547 : (Jvm.Cond.code ({ cls := "ScoreHandles$Runner", name := "sum", desc := "(IJJ)J" } : Jvm.MethodName) prog_9_method_15_code (5 : Nat) (Option.some Jvm.ClassFile.FieldType.long)) ∈ lw_all := lw_in 547 (by decide +kernel) rfl
theorem qw548 : (Jvm.Cond.fieldLink "ScoreHandles$Runner" (175 : Nat) "ScoreHandles$Real" "SINGLE" "LScoreHandles$Real;") ∈ lw_all := lw_in 548 (by decide +kernel) rfl
theorem qn549 : (Jvm.Cond.methodLinkNest "ScoreHandles$Runner" (181 : Nat) ({ cls := "ScoreHandles$Real", name := "sumOf", desc := "(JJ)J" } : Jvm.MethodName) "ScoreHandles") ∈ lw_nest := lw_inN 549 (by decide +kernel) rfl
theorem qw551 : (Jvm.Cond.instanceMethod ({ cls := "ScoreHandles$Real", name := "sumOf", desc := "(JJ)J" } : Jvm.MethodName)) ∈ lw_all := lw_in 551 (by decide +kernel) rfl
theorem qw552 : (Jvm.Cond.code ({ cls := "ScoreHandles$Real", name := "sumOf", desc := "(JJ)J" } : Jvm.MethodName) prog_6_method_14_code (8 : Nat) (Option.some Jvm.ClassFile.FieldType.long)) ∈ lw_all := lw_in 552 (by decide +kernel) rfl
theorem qw553 : (Jvm.Cond.methodLink "ScoreHandles$Real" (69 : Nat) ({ cls := "ScoreHandles$Real", name := "sumBeyond", desc := "(JJ)J" } : Jvm.MethodName)) ∈ lw_all := lw_in 553 (by decide +kernel) rfl
theorem qw555 : (Jvm.Cond.instanceMethod ({ cls := "ScoreHandles$Real", name := "sumBeyond", desc := "(JJ)J" } : Jvm.MethodName)) ∈ lw_all := lw_in 555 (by decide +kernel) rfl
theorem qw556 : (Jvm.Cond.code ({ cls := "ScoreHandles$Real", name := "sumBeyond", desc := "(JJ)J" } : Jvm.MethodName) prog_6_method_15_code (6 : Nat) (Option.some Jvm.ClassFile.FieldType.long)) ∈ lw_all := lw_in 556 (by decide +kernel) rfl
theorem qw557 : (Jvm.Cond.methodLink "ScoreHandles$Real" (77 : Nat) ({ cls := "ScoreHandles$Real", name := "aligned", desc := "(JI)J" } : Jvm.MethodName)) ∈ lw_all := lw_in 557 (by decide +kernel) rfl
theorem qw559 : (Jvm.Cond.instanceMethod ({ cls := "ScoreHandles$Real", name := "aligned", desc := "(JI)J" } : Jvm.MethodName)) ∈ lw_all := lw_in 559 (by decide +kernel) rfl
theorem qw560 : (Jvm.Cond.code ({ cls := "ScoreHandles$Real", name := "aligned", desc := "(JI)J" } : Jvm.MethodName) prog_6_method_16_code (12 : Nat) (Option.some Jvm.ClassFile.FieldType.long)) ∈ lw_all := lw_in 560 (by decide +kernel) rfl
theorem qw561 : (Jvm.Cond.fieldLink "ScoreHandles$Runner" (185 : Nat) "ScoreHandles$Real" "DOUBLE" "LScoreHandles$Real;") ∈ lw_all := lw_in 561 (by decide +kernel) rfl
theorem qw562 : (Jvm.Cond.methodLink "ScoreHandles$Runner" (78 : Nat) ({ cls := "ScoreHandles$Runner", name := "quotient", desc := "(LScoreHandles$Handle;JJ)J" } : Jvm.MethodName)) ∈ lw_all := lw_in 562 (by decide +kernel) rfl
theorem qw564 : (Jvm.Cond.instanceMethod ({ cls := "ScoreHandles$Runner", name := "quotient", desc := "(LScoreHandles$Handle;JJ)J" } : Jvm.MethodName)) ∈ lw_all := lw_in 564 (by decide +kernel) rfl
theorem qw565 : (Jvm.Cond.code ({ cls := "ScoreHandles$Runner", name := "quotient", desc := "(LScoreHandles$Handle;JJ)J" } : Jvm.MethodName) prog_9_method_16_code (6 : Nat) (Option.some Jvm.ClassFile.FieldType.long)) ∈ lw_all := lw_in 565 (by decide +kernel) rfl
theorem qn566 : (Jvm.Cond.methodLinkNest "ScoreHandles$Runner" (188 : Nat) ({ cls := "ScoreHandles$Real", name := "quotientOf", desc := "(JJ)J" } : Jvm.MethodName) "ScoreHandles") ∈ lw_nest := lw_inN 566 (by decide +kernel) rfl
theorem qw568 : (Jvm.Cond.instanceMethod ({ cls := "ScoreHandles$Real", name := "quotientOf", desc := "(JJ)J" } : Jvm.MethodName)) ∈ lw_all := lw_in 568 (by decide +kernel) rfl
theorem qw569 : (Jvm.Cond.code ({ cls := "ScoreHandles$Real", name := "quotientOf", desc := "(JJ)J" } : Jvm.MethodName) prog_6_method_17_code (11 : Nat) (Option.some Jvm.ClassFile.FieldType.long)) ∈ lw_all := lw_in 569 (by decide +kernel) rfl
theorem qw570 : (Jvm.Cond.methodLink "ScoreHandles$Real" (95 : Nat) ({ cls := "ScoreHandles$Real", name := "divided", desc := "(ZJJ)J" } : Jvm.MethodName)) ∈ lw_all := lw_in 570 (by decide +kernel) rfl
theorem qw572 : (Jvm.Cond.instanceMethod ({ cls := "ScoreHandles$Real", name := "divided", desc := "(ZJJ)J" } : Jvm.MethodName)) ∈ lw_all := lw_in 572 (by decide +kernel) rfl
theorem qw573 : (Jvm.Cond.code ({ cls := "ScoreHandles$Real", name := "divided", desc := "(ZJJ)J" } : Jvm.MethodName) prog_6_method_18_code (16 : Nat) (Option.some Jvm.ClassFile.FieldType.long)) ∈ lw_all := lw_in 573 (by decide +kernel) rfl
theorem qw574 : (Jvm.Cond.fieldLink "ScoreHandles$Real" (7 : Nat) "ScoreHandles$Real" "DOUBLE" "LScoreHandles$Real;") ∈ lw_all := lw_in 574 (by decide +kernel) rfl
theorem qw575 : (Jvm.Cond.methodLink "ScoreHandles$Runner" (138 : Nat) ({ cls := "ScoreHandles$Runner", name := "fail", desc := "(LScoreHandles$Handle;I)J" } : Jvm.MethodName)) ∈ lw_all := lw_in 575 (by decide +kernel) rfl
theorem qw577 : (Jvm.Cond.instanceMethod ({ cls := "ScoreHandles$Runner", name := "fail", desc := "(LScoreHandles$Handle;I)J" } : Jvm.MethodName)) ∈ lw_all := lw_in 577 (by decide +kernel) rfl
theorem qw578 : (Jvm.Cond.code ({ cls := "ScoreHandles$Runner", name := "fail", desc := "(LScoreHandles$Handle;I)J" } : Jvm.MethodName) prog_9_method_7_code (3 : Nat) (Option.some Jvm.ClassFile.FieldType.long)) ∈ lw_all := lw_in 578 (by decide +kernel) rfl
theorem qw579 : (Jvm.Cond.methodLink "ScoreHandles$Runner" (82 : Nat) ({ cls := "ScoreHandles$Runner", name := "isAbove", desc := "(IJJ)Z" } : Jvm.MethodName)) ∈ lw_all := lw_in 579 (by decide +kernel) rfl
theorem qw580 : (Jvm.Cond.static ({ cls := "ScoreHandles$Runner", name := "isAbove", desc := "(IJJ)Z" } : Jvm.MethodName)) ∈ lw_all := lw_in 580 (by decide +kernel) rfl
theorem qw581 : (Jvm.Cond.code ({ cls := "ScoreHandles$Runner", name := "isAbove", desc := "(IJJ)Z" } : Jvm.MethodName) prog_9_method_17_code (5 : Nat) (Option.some Jvm.ClassFile.FieldType.boolean)) ∈ lw_all := lw_in 581 (by decide +kernel) rfl
theorem qn582 : (Jvm.Cond.methodLinkNest "ScoreHandles$Runner" (191 : Nat) ({ cls := "ScoreHandles$Real", name := "isAbove", desc := "(JJ)Z" } : Jvm.MethodName) "ScoreHandles") ∈ lw_nest := lw_inN 582 (by decide +kernel) rfl
theorem qw584 : (Jvm.Cond.instanceMethod ({ cls := "ScoreHandles$Real", name := "isAbove", desc := "(JJ)Z" } : Jvm.MethodName)) ∈ lw_all := lw_in 584 (by decide +kernel) rfl
theorem qw585 : (Jvm.Cond.code ({ cls := "ScoreHandles$Real", name := "isAbove", desc := "(JJ)Z" } : Jvm.MethodName) prog_6_method_12_code (5 : Nat) (Option.some Jvm.ClassFile.FieldType.boolean)) ∈ lw_all := lw_in 585 (by decide +kernel) rfl
theorem qw586 : (Jvm.Cond.methodLink "ScoreHandles$Real" (66 : Nat) ({ cls := "ScoreHandles$Real", name := "ordered", desc := "(J)J" } : Jvm.MethodName)) ∈ lw_all := lw_in 586 (by decide +kernel) rfl
theorem qw588 : (Jvm.Cond.instanceMethod ({ cls := "ScoreHandles$Real", name := "ordered", desc := "(J)J" } : Jvm.MethodName)) ∈ lw_all := lw_in 588 (by decide +kernel) rfl
theorem qw589 : (Jvm.Cond.code ({ cls := "ScoreHandles$Real", name := "ordered", desc := "(J)J" } : Jvm.MethodName) prog_6_method_13_code (3 : Nat) (Option.some Jvm.ClassFile.FieldType.long)) ∈ lw_all := lw_in 589 (by decide +kernel) rfl
theorem qw590 : (Jvm.Cond.methodLink "ScoreHandles$Runner" (86 : Nat) ({ cls := "ScoreHandles$Runner", name := "arrange", desc := "(LScoreHandles$Handle;I)J" } : Jvm.MethodName)) ∈ lw_all := lw_in 590 (by decide +kernel) rfl
theorem qw592 : (Jvm.Cond.instanceMethod ({ cls := "ScoreHandles$Runner", name := "arrange", desc := "(LScoreHandles$Handle;I)J" } : Jvm.MethodName)) ∈ lw_all := lw_in 592 (by decide +kernel) rfl
theorem qw593 : (Jvm.Cond.code ({ cls := "ScoreHandles$Runner", name := "arrange", desc := "(LScoreHandles$Handle;I)J" } : Jvm.MethodName) prog_9_method_18_code (4 : Nat) (Option.some Jvm.ClassFile.FieldType.long)) ∈ lw_all := lw_in 593 (by decide +kernel) rfl
theorem qw594 : (Jvm.Cond.methodLink "ScoreHandles$Runner" (194 : Nat) ({ cls := "ScoreHandles$Runner", name := "handOn", desc := "(III)V" } : Jvm.MethodName)) ∈ lw_all := lw_in 594 (by decide +kernel) rfl
theorem qw596 : (Jvm.Cond.instanceMethod ({ cls := "ScoreHandles$Runner", name := "handOn", desc := "(III)V" } : Jvm.MethodName)) ∈ lw_all := lw_in 596 (by decide +kernel) rfl
theorem qw597 : (Jvm.Cond.code ({ cls := "ScoreHandles$Runner", name := "handOn", desc := "(III)V" } : Jvm.MethodName) prog_9_method_6_code (6 : Nat) (Option.none : Option Jvm.ClassFile.FieldType)) ∈ lw_all := lw_in 597 (by decide +kernel) rfl
theorem qw598 : (Jvm.Cond.methodLink "ScoreHandles$Runner" (40 : Nat) ({ cls := "java/lang/Math", name := "max", desc := "(II)I" } : Jvm.MethodName)) ∈ lw_all := lw_in 598 (by decide +kernel) rfl
theorem qw599 : (Jvm.Cond.methodLink "ScoreHandles$Runner" (49 : Nat) ({ cls := "ScoreHandles$Runner", name := "hand", desc := "(IIJ)V" } : Jvm.MethodName)) ∈ lw_all := lw_in 599 (by decide +kernel) rfl
theorem qw600 : (Jvm.Cond.methodLink "ScoreHandles$Runner" (198 : Nat) ({ cls := "ScoreHandles$Runner", name := "perform", desc := "(II)J" } : Jvm.MethodName)) ∈ lw_all := lw_in 600 (by decide +kernel) rfl
theorem qw601 : (Jvm.Cond.methodLink "ScoreHandles$Runner" (90 : Nat) ({ cls := "ScoreHandles$Runner", name := "filter", desc := "(LScoreHandles$Handle;I)J" } : Jvm.MethodName)) ∈ lw_all := lw_in 601 (by decide +kernel) rfl
theorem qw603 : (Jvm.Cond.instanceMethod ({ cls := "ScoreHandles$Runner", name := "filter", desc := "(LScoreHandles$Handle;I)J" } : Jvm.MethodName)) ∈ lw_all := lw_in 603 (by decide +kernel) rfl
theorem qw604 : (Jvm.Cond.code ({ cls := "ScoreHandles$Runner", name := "filter", desc := "(LScoreHandles$Handle;I)J" } : Jvm.MethodName) prog_9_method_19_code (5 : Nat) (Option.some Jvm.ClassFile.FieldType.long)) ∈ lw_all := lw_in 604 (by decide +kernel) rfl
theorem qw605 : (Jvm.Cond.methodLink "ScoreHandles$Runner" (93 : Nat) ({ cls := "ScoreHandles$Runner", name := "fold", desc := "(LScoreHandles$Handle;I)J" } : Jvm.MethodName)) ∈ lw_all := lw_in 605 (by decide +kernel) rfl
theorem qw607 : (Jvm.Cond.instanceMethod ({ cls := "ScoreHandles$Runner", name := "fold", desc := "(LScoreHandles$Handle;I)J" } : Jvm.MethodName)) ∈ lw_all := lw_in 607 (by decide +kernel) rfl
theorem qw608 : (Jvm.Cond.code ({ cls := "ScoreHandles$Runner", name := "fold", desc := "(LScoreHandles$Handle;I)J" } : Jvm.MethodName) prog_9_method_20_code (5 : Nat) (Option.some Jvm.ClassFile.FieldType.long)) ∈ lw_all := lw_in 608 (by decide +kernel) rfl
theorem qw609 : (Jvm.Cond.methodLink "ScoreHandles$Runner" (96 : Nat) ({ cls := "ScoreHandles$Runner", name := "thenOther", desc := "(LScoreHandles$Handle;I)J" } : Jvm.MethodName)) ∈ lw_all := lw_in 609 (by decide +kernel) rfl
theorem qw611 : (Jvm.Cond.instanceMethod ({ cls := "ScoreHandles$Runner", name := "thenOther", desc := "(LScoreHandles$Handle;I)J" } : Jvm.MethodName)) ∈ lw_all := lw_in 611 (by decide +kernel) rfl
theorem qw612 : (Jvm.Cond.code ({ cls := "ScoreHandles$Runner", name := "thenOther", desc := "(LScoreHandles$Handle;I)J" } : Jvm.MethodName) prog_9_method_21_code (5 : Nat) (Option.some Jvm.ClassFile.FieldType.long)) ∈ lw_all := lw_in 612 (by decide +kernel) rfl
theorem qw613 : (Jvm.Cond.methodLink "ScoreHandles$Runner" (99 : Nat) ({ cls := "ScoreHandles$Runner", name := "guard", desc := "(LScoreHandles$Handle;I)J" } : Jvm.MethodName)) ∈ lw_all := lw_in 613 (by decide +kernel) rfl
theorem qw615 : (Jvm.Cond.instanceMethod ({ cls := "ScoreHandles$Runner", name := "guard", desc := "(LScoreHandles$Handle;I)J" } : Jvm.MethodName)) ∈ lw_all := lw_in 615 (by decide +kernel) rfl
theorem qw616 : (Jvm.Cond.code ({ cls := "ScoreHandles$Runner", name := "guard", desc := "(LScoreHandles$Handle;I)J" } : Jvm.MethodName) prog_9_method_22_code (5 : Nat) (Option.some Jvm.ClassFile.FieldType.long)) ∈ lw_all := lw_in 616 (by decide +kernel) rfl
theorem qw617 : (Jvm.Cond.methodLink "ScoreHandles$Runner" (102 : Nat) ({ cls := "ScoreHandles$Runner", name := "catchFailure", desc := "(LScoreHandles$Handle;I)J" } : Jvm.MethodName)) ∈ lw_all := lw_in 617 (by decide +kernel) rfl
theorem qw619 : (Jvm.Cond.instanceMethod ({ cls := "ScoreHandles$Runner", name := "catchFailure", desc := "(LScoreHandles$Handle;I)J" } : Jvm.MethodName)) ∈ lw_all := lw_in 619 (by decide +kernel) rfl
theorem qw620 : (Jvm.Cond.code ({ cls := "ScoreHandles$Runner", name := "catchFailure", desc := "(LScoreHandles$Handle;I)J" } : Jvm.MethodName) prog_9_method_23_code (6 : Nat) (Option.some Jvm.ClassFile.FieldType.long)) ∈ lw_all := lw_in 620 (by decide +kernel) rfl
theorem qw621 : (Jvm.Cond.methodLink "ScoreHandles$Runner" (105 : Nat) ({ cls := "ScoreHandles$Runner", name := "doAtLast", desc := "(LScoreHandles$Handle;I)J" } : Jvm.MethodName)) ∈ lw_all := lw_in 621 (by decide +kernel) rfl
theorem qw623 : (Jvm.Cond.instanceMethod ({ cls := "ScoreHandles$Runner", name := "doAtLast", desc := "(LScoreHandles$Handle;I)J" } : Jvm.MethodName)) ∈ lw_all := lw_in 623 (by decide +kernel) rfl
theorem qw624 : (Jvm.Cond.code ({ cls := "ScoreHandles$Runner", name := "doAtLast", desc := "(LScoreHandles$Handle;I)J" } : Jvm.MethodName) prog_9_method_24_code (8 : Nat) (Option.some Jvm.ClassFile.FieldType.long)) ∈ lw_all := lw_in 624 (by decide +kernel) rfl
theorem qn625 : (Jvm.Cond.methodLinkNest "ScoreHandles$Runner" (213 : Nat) ({ cls := "ScoreHandles$Kind", name := "nothing", desc := "(I)J" } : Jvm.MethodName) "ScoreHandles") ∈ lw_nest := lw_inN 625 (by decide +kernel) rfl
theorem qw626 : (Jvm.Cond.static ({ cls := "ScoreHandles$Kind", name := "nothing", desc := "(I)J" } : Jvm.MethodName)) ∈ lw_all := lw_in 626 (by decide +kernel) rfl
theorem qw627 : (Jvm.Cond.code ({ cls := "ScoreHandles$Kind", name := "nothing", desc := "(I)J" } : Jvm.MethodName) prog_4_method_9_code (1 : Nat) (Option.some Jvm.ClassFile.FieldType.long)) ∈ lw_all := lw_in 627 (by decide +kernel) rfl
theorem qw628 : (Jvm.Cond.constantLong "ScoreHandles$Kind" (34 : Nat) (-1 : Int64)) ∈ lw_all := lw_in 628 (by decide +kernel) rfl
theorem qw629 : (Jvm.Cond.methodLink "ScoreHandles$Runner" (108 : Nat) ({ cls := "ScoreHandles$Runner", name := "loop", desc := "(LScoreHandles$Handle;I)J" } : Jvm.MethodName)) ∈ lw_all := lw_in 629 (by decide +kernel) rfl
theorem qw631 : (Jvm.Cond.instanceMethod ({ cls := "ScoreHandles$Runner", name := "loop", desc := "(LScoreHandles$Handle;I)J" } : Jvm.MethodName)) ∈ lw_all := lw_in 631 (by decide +kernel) rfl
theorem qw632 : (Jvm.Cond.code ({ cls := "ScoreHandles$Runner", name := "loop", desc := "(LScoreHandles$Handle;I)J" } : Jvm.MethodName) prog_9_method_25_code (8 : Nat) (Option.some Jvm.ClassFile.FieldType.long)) ∈ lw_all := lw_in 632 (by decide +kernel) rfl
theorem qw633 : (Jvm.Cond.constantLong "ScoreHandles$Runner" (216 : Nat) (2001 : Int64)) ∈ lw_all := lw_in 633 (by decide +kernel) rfl
theorem qw634 : (Jvm.Cond.methodLink "ScoreHandles$Runner" (218 : Nat) ({ cls := "java/lang/Math", name := "min", desc := "(JJ)J" } : Jvm.MethodName)) ∈ lw_all := lw_in 634 (by decide +kernel) rfl
theorem qw635 : (Jvm.Cond.static ({ cls := "java/lang/Math", name := "min", desc := "(JJ)J" } : Jvm.MethodName)) ∈ lw_all := lw_in 635 (by decide +kernel) rfl
theorem qw636 : (Jvm.Cond.code ({ cls := "java/lang/Math", name := "min", desc := "(JJ)J" } : Jvm.MethodName) prog_17_method_70_code (4 : Nat) (Option.some Jvm.ClassFile.FieldType.long)) ∈ lw_all := lw_in 636 (by decide +kernel) rfl
theorem qw637 : (Jvm.Cond.methodLink "ScoreHandles$Runner" (111 : Nat) ({ cls := "ScoreHandles$Runner", name := "widen", desc := "(LScoreHandles$Handle;I)J" } : Jvm.MethodName)) ∈ lw_all := lw_in 637 (by decide +kernel) rfl
theorem qw639 : (Jvm.Cond.instanceMethod ({ cls := "ScoreHandles$Runner", name := "widen", desc := "(LScoreHandles$Handle;I)J" } : Jvm.MethodName)) ∈ lw_all := lw_in 639 (by decide +kernel) rfl
theorem qw640 : (Jvm.Cond.code ({ cls := "ScoreHandles$Runner", name := "widen", desc := "(LScoreHandles$Handle;I)J" } : Jvm.MethodName) prog_9_method_26_code (8 : Nat) (Option.some Jvm.ClassFile.FieldType.long)) ∈ lw_all := lw_in 640 (by decide +kernel) rfl
theorem qn641 : (Jvm.Cond.methodLinkNest "ScoreHandles$Runner" (221 : Nat) ({ cls := "ScoreHandles$Handles", name := "typeAt", desc := "(I)LScoreHandles$Type;" } : Jvm.MethodName) "ScoreHandles") ∈ lw_nest := lw_inN 641 (by decide +kernel) rfl
theorem qn642 : (Jvm.Cond.methodLinkNest "ScoreHandles$Runner" (227 : Nat) ({ cls := "ScoreHandles$Type", name := "kind", desc := "(I)I" } : Jvm.MethodName) "ScoreHandles") ∈ lw_nest := lw_inN 642 (by decide +kernel) rfl
theorem qn643 : (Jvm.Cond.methodLinkNest "ScoreHandles$Runner" (231 : Nat) ({ cls := "ScoreHandles$Kind", name := "widened", desc := "(IIJ)J" } : Jvm.MethodName) "ScoreHandles") ∈ lw_nest := lw_inN 643 (by decide +kernel) rfl
theorem qw644 : (Jvm.Cond.methodLink "ScoreHandles$Runner" (114 : Nat) ({ cls := "ScoreHandles$Runner", name := "act", desc := "(LScoreHandles$Handle;I)J" } : Jvm.MethodName)) ∈ lw_all := lw_in 644 (by decide +kernel) rfl
theorem qw646 : (Jvm.Cond.instanceMethod ({ cls := "ScoreHandles$Runner", name := "act", desc := "(LScoreHandles$Handle;I)J" } : Jvm.MethodName)) ∈ lw_all := lw_in 646 (by decide +kernel) rfl
theorem qw647 : (Jvm.Cond.code ({ cls := "ScoreHandles$Runner", name := "act", desc := "(LScoreHandles$Handle;I)J" } : Jvm.MethodName) prog_9_method_10_code (7 : Nat) (Option.some Jvm.ClassFile.FieldType.long)) ∈ lw_all := lw_in 647 (by decide +kernel) rfl
theorem qw648 : (Jvm.Cond.methodLink "ScoreHandles$Runner" (121 : Nat) ({ cls := "ScoreHandles$Runner", name := "read", desc := "(LScoreHandles$Handle;JJ)J" } : Jvm.MethodName)) ∈ lw_all := lw_in 648 (by decide +kernel) rfl
theorem qw650 : (Jvm.Cond.instanceMethod ({ cls := "ScoreHandles$Runner", name := "read", desc := "(LScoreHandles$Handle;JJ)J" } : Jvm.MethodName)) ∈ lw_all := lw_in 650 (by decide +kernel) rfl
theorem qw651 : (Jvm.Cond.code ({ cls := "ScoreHandles$Runner", name := "read", desc := "(LScoreHandles$Handle;JJ)J" } : Jvm.MethodName) prog_9_method_11_code (7 : Nat) (Option.some Jvm.ClassFile.FieldType.long)) ∈ lw_all := lw_in 651 (by decide +kernel) rfl
theorem qn652 : (Jvm.Cond.methodLinkNest "ScoreHandles$Runner" (149 : Nat) ({ cls := "ScoreHandles$Rows", name := "at", desc := "(J)LScoreHandles$Row;" } : Jvm.MethodName) "ScoreHandles") ∈ lw_nest := lw_inN 652 (by decide +kernel) rfl
theorem qn653 : (Jvm.Cond.methodLinkNest "ScoreHandles$Runner" (152 : Nat) ({ cls := "ScoreHandles$Row", name := "has", desc := "(J)Z" } : Jvm.MethodName) "ScoreHandles") ∈ lw_nest := lw_inN 653 (by decide +kernel) rfl
theorem qn654 : (Jvm.Cond.methodLinkNest "ScoreHandles$Runner" (158 : Nat) ({ cls := "ScoreHandles$Row", name := "get", desc := "(J)J" } : Jvm.MethodName) "ScoreHandles") ∈ lw_nest := lw_inN 654 (by decide +kernel) rfl
theorem qw655 : (Jvm.Cond.methodLink "ScoreHandles$Runner" (124 : Nat) ({ cls := "ScoreHandles$Runner", name := "write", desc := "(LScoreHandles$Handle;JJJ)J" } : Jvm.MethodName)) ∈ lw_all := lw_in 655 (by decide +kernel) rfl
theorem qw657 : (Jvm.Cond.instanceMethod ({ cls := "ScoreHandles$Runner", name := "write", desc := "(LScoreHandles$Handle;JJJ)J" } : Jvm.MethodName)) ∈ lw_all := lw_in 657 (by decide +kernel) rfl
theorem qw658 : (Jvm.Cond.code ({ cls := "ScoreHandles$Runner", name := "write", desc := "(LScoreHandles$Handle;JJJ)J" } : Jvm.MethodName) prog_9_method_12_code (11 : Nat) (Option.some Jvm.ClassFile.FieldType.long)) ∈ lw_all := lw_in 658 (by decide +kernel) rfl
theorem qn659 : (Jvm.Cond.methodLinkNest "ScoreHandles$Runner" (162 : Nat) ({ cls := "ScoreHandles$Row", name := "set", desc := "(JJ)V" } : Jvm.MethodName) "ScoreHandles") ∈ lw_nest := lw_inN 659 (by decide +kernel) rfl
theorem qw660 : (Jvm.Cond.methodLink "ScoreHandles$Runner" (128 : Nat) ({ cls := "ScoreHandles$Runner", name := "sizeOf", desc := "(LScoreHandles$Handle;J)J" } : Jvm.MethodName)) ∈ lw_all := lw_in 660 (by decide +kernel) rfl
theorem qw662 : (Jvm.Cond.instanceMethod ({ cls := "ScoreHandles$Runner", name := "sizeOf", desc := "(LScoreHandles$Handle;J)J" } : Jvm.MethodName)) ∈ lw_all := lw_in 662 (by decide +kernel) rfl
theorem qw663 : (Jvm.Cond.code ({ cls := "ScoreHandles$Runner", name := "sizeOf", desc := "(LScoreHandles$Handle;J)J" } : Jvm.MethodName) prog_9_method_13_code (5 : Nat) (Option.some Jvm.ClassFile.FieldType.long)) ∈ lw_all := lw_in 663 (by decide +kernel) rfl
theorem qn664 : (Jvm.Cond.methodLinkNest "ScoreHandles$Runner" (166 : Nat) ({ cls := "ScoreHandles$Row", name := "many", desc := "()I" } : Jvm.MethodName) "ScoreHandles") ∈ lw_nest := lw_inN 664 (by decide +kernel) rfl
theorem qw665 : (Jvm.Cond.methodLink "ScoreHandles$Runner" (132 : Nat) ({ cls := "ScoreHandles$Runner", name := "newRow", desc := "(LScoreHandles$Handle;J)J" } : Jvm.MethodName)) ∈ lw_all := lw_in 665 (by decide +kernel) rfl
theorem qw667 : (Jvm.Cond.instanceMethod ({ cls := "ScoreHandles$Runner", name := "newRow", desc := "(LScoreHandles$Handle;J)J" } : Jvm.MethodName)) ∈ lw_all := lw_in 667 (by decide +kernel) rfl
theorem qw668 : (Jvm.Cond.code ({ cls := "ScoreHandles$Runner", name := "newRow", desc := "(LScoreHandles$Handle;J)J" } : Jvm.MethodName) prog_9_method_14_code (5 : Nat) (Option.some Jvm.ClassFile.FieldType.long)) ∈ lw_all := lw_in 668 (by decide +kernel) rfl
theorem qw669 : (Jvm.Cond.constantLong "ScoreHandles$Runner" (170 : Nat) (8 : Int64)) ∈ lw_all := lw_in 669 (by decide +kernel) rfl
theorem qn670 : (Jvm.Cond.methodLinkNest "ScoreHandles$Runner" (172 : Nat) ({ cls := "ScoreHandles$Rows", name := "added", desc := "(II)I" } : Jvm.MethodName) "ScoreHandles") ∈ lw_nest := lw_inN 670 (by decide +kernel) rfl
theorem qn671 : (Jvm.Cond.methodLinkNest "ScoreHandles$Runner" (143 : Nat) ({ cls := "ScoreHandles$Rows", name := "mayBe", desc := "(IJ)Z" } : Jvm.MethodName) "ScoreHandles") ∈ lw_nest := lw_inN 671 (by decide +kernel) rfl
theorem qw672 : (Jvm.Cond.methodLink "ScoreHandlesLaw" (63 : Nat) ({ cls := "ScoreHandles", name := "value", desc := "()J" } : Jvm.MethodName)) ∈ lw_all := lw_in 672 (by decide +kernel) rfl
theorem qw673 : (Jvm.Cond.instanceMethod ({ cls := "ScoreHandles", name := "value", desc := "()J" } : Jvm.MethodName)) ∈ lw_all := lw_in 673 (by decide +kernel) rfl
theorem qw674 : (Jvm.Cond.selects "ScoreHandles" ({ cls := "ScoreHandles", name := "value", desc := "()J" } : Jvm.MethodName) ({ cls := "ScoreHandles", name := "value", desc := "()J" } : Jvm.MethodName)) ∈ lw_all := lw_in 674 (by decide +kernel) rfl
theorem qw675 : (Jvm.Cond.code ({ cls := "ScoreHandles", name := "value", desc := "()J" } : Jvm.MethodName) prog_1_method_12_code (1 : Nat) (Option.some Jvm.ClassFile.FieldType.long)) ∈ lw_all := lw_in 675 (by decide +kernel) rfl
theorem qw676 : (Jvm.Cond.methodLink "ScoreHandlesLaw" (68 : Nat) ({ cls := "ScoreHandles", name := "last", desc := "(I)I" } : Jvm.MethodName)) ∈ lw_all := lw_in 676 (by decide +kernel) rfl
theorem qw677 : (Jvm.Cond.instanceMethod ({ cls := "ScoreHandles", name := "last", desc := "(I)I" } : Jvm.MethodName)) ∈ lw_all := lw_in 677 (by decide +kernel) rfl
theorem qw678 : (Jvm.Cond.selects "ScoreHandles" ({ cls := "ScoreHandles", name := "last", desc := "(I)I" } : Jvm.MethodName) ({ cls := "ScoreHandles", name := "last", desc := "(I)I" } : Jvm.MethodName)) ∈ lw_all := lw_in 678 (by decide +kernel) rfl
theorem qw679 : (Jvm.Cond.code ({ cls := "ScoreHandles", name := "last", desc := "(I)I" } : Jvm.MethodName) prog_1_method_13_code (2 : Nat) (Option.some Jvm.ClassFile.FieldType.int)) ∈ lw_all := lw_in 679 (by decide +kernel) rfl
theorem qw680 : (Jvm.Cond.methodLink "ScoreHandlesLaw" (72 : Nat) ({ cls := "ScoreHandles", name := "count", desc := "(I)I" } : Jvm.MethodName)) ∈ lw_all := lw_in 680 (by decide +kernel) rfl
theorem qw681 : (Jvm.Cond.instanceMethod ({ cls := "ScoreHandles", name := "count", desc := "(I)I" } : Jvm.MethodName)) ∈ lw_all := lw_in 681 (by decide +kernel) rfl
theorem qw682 : (Jvm.Cond.selects "ScoreHandles" ({ cls := "ScoreHandles", name := "count", desc := "(I)I" } : Jvm.MethodName) ({ cls := "ScoreHandles", name := "count", desc := "(I)I" } : Jvm.MethodName)) ∈ lw_all := lw_in 682 (by decide +kernel) rfl
theorem qw683 : (Jvm.Cond.code ({ cls := "ScoreHandles", name := "count", desc := "(I)I" } : Jvm.MethodName) prog_1_method_14_code (2 : Nat) (Option.some Jvm.ClassFile.FieldType.int)) ∈ lw_all := lw_in 683 (by decide +kernel) rfl
theorem qw684 : (Jvm.Cond.classLink "ScoreHandlesLaw" (10 : Nat) "ScoreHandlesModel") ∈ lw_all := lw_in 684 (by decide +kernel) rfl
theorem qw685 : (Jvm.Cond.instantiable "ScoreHandlesModel" (36 : Nat)) ∈ lw_all := lw_in 685 (by decide +kernel) rfl
theorem qw686 : (Jvm.Cond.methodLink "ScoreHandlesLaw" (12 : Nat) ({ cls := "ScoreHandlesModel", name := "<init>", desc := "()V" } : Jvm.MethodName)) ∈ lw_all := lw_in 686 (by decide +kernel) rfl
theorem qw687 : (Jvm.Cond.instanceMethod ({ cls := "ScoreHandlesModel", name := "<init>", desc := "()V" } : Jvm.MethodName)) ∈ lw_all := lw_in 687 (by decide +kernel) rfl
theorem qw688 : (Jvm.Cond.code ({ cls := "ScoreHandlesModel", name := "<init>", desc := "()V" } : Jvm.MethodName) prog_13_method_1_code (1 : Nat) (Option.none : Option Jvm.ClassFile.FieldType)) ∈ lw_all := lw_in 688 (by decide +kernel) rfl
theorem qw689 : (Jvm.Cond.methodLink "ScoreHandlesModel" (1 : Nat) ({ cls := "java/lang/Object", name := "<init>", desc := "()V" } : Jvm.MethodName)) ∈ lw_all := lw_in 689 (by decide +kernel) rfl
theorem qw690 : (Jvm.Cond.fieldLink "ScoreHandlesModel" (86 : Nat) "ScoreHandlesModel" "rows" "I") ∈ lw_all := lw_in 690 (by decide +kernel) rfl
theorem qw691 : (Jvm.Cond.fieldLink "ScoreHandlesModel" (7 : Nat) "ScoreHandlesModel" "laneOf" "[I") ∈ lw_all := lw_in 691 (by decide +kernel) rfl
theorem qw692 : (Jvm.Cond.fieldLink "ScoreHandlesModel" (13 : Nat) "ScoreHandlesModel" "sizeOf" "[I") ∈ lw_all := lw_in 692 (by decide +kernel) rfl
theorem qw693 : (Jvm.Cond.fieldLink "ScoreHandlesModel" (16 : Nat) "ScoreHandlesModel" "items" "[J") ∈ lw_all := lw_in 693 (by decide +kernel) rfl
theorem qw694 : (Jvm.Cond.fieldLink "ScoreHandlesModel" (20 : Nat) "ScoreHandlesModel" "handResult" "I") ∈ lw_all := lw_in 694 (by decide +kernel) rfl
theorem qw695 : (Jvm.Cond.fieldLink "ScoreHandlesModel" (159 : Nat) "ScoreHandlesModel" "handMany" "I") ∈ lw_all := lw_in 695 (by decide +kernel) rfl
theorem qw696 : (Jvm.Cond.fieldLink "ScoreHandlesModel" (24 : Nat) "ScoreHandlesModel" "handKind" "[I") ∈ lw_all := lw_in 696 (by decide +kernel) rfl
theorem qw697 : (Jvm.Cond.fieldLink "ScoreHandlesModel" (27 : Nat) "ScoreHandlesModel" "given" "[J") ∈ lw_all := lw_in 697 (by decide +kernel) rfl
theorem qw698 : (Jvm.Cond.fieldLink "ScoreHandlesModel" (164 : Nat) "ScoreHandlesModel" "handles" "I") ∈ lw_all := lw_in 698 (by decide +kernel) rfl
theorem qw699 : (Jvm.Cond.fieldLink "ScoreHandlesModel" (30 : Nat) "ScoreHandlesModel" "sortOf" "[I") ∈ lw_all := lw_in 699 (by decide +kernel) rfl
theorem qw700 : (Jvm.Cond.fieldLink "ScoreHandlesModel" (33 : Nat) "ScoreHandlesModel" "aOf" "[I") ∈ lw_all := lw_in 700 (by decide +kernel) rfl
theorem qw701 : (Jvm.Cond.fieldLink "ScoreHandlesModel" (36 : Nat) "ScoreHandlesModel" "bOf" "[I") ∈ lw_all := lw_in 701 (by decide +kernel) rfl
theorem qw702 : (Jvm.Cond.fieldLink "ScoreHandlesModel" (39 : Nat) "ScoreHandlesModel" "cOf" "[I") ∈ lw_all := lw_in 702 (by decide +kernel) rfl
theorem qw703 : (Jvm.Cond.fieldLink "ScoreHandlesModel" (42 : Nat) "ScoreHandlesModel" "vOf" "[J") ∈ lw_all := lw_in 703 (by decide +kernel) rfl
theorem qw704 : (Jvm.Cond.fieldLink "ScoreHandlesModel" (45 : Nat) "ScoreHandlesModel" "manyOf" "[I") ∈ lw_all := lw_in 704 (by decide +kernel) rfl
theorem qw705 : (Jvm.Cond.fieldLink "ScoreHandlesModel" (48 : Nat) "ScoreHandlesModel" "kindOf" "[I") ∈ lw_all := lw_in 705 (by decide +kernel) rfl
theorem qw706 : (Jvm.Cond.fieldLink "ScoreHandlesModel" (51 : Nat) "ScoreHandlesModel" "resultOf" "[I") ∈ lw_all := lw_in 706 (by decide +kernel) rfl
theorem qw707 : (Jvm.Cond.fieldLink "ScoreHandlesModel" (187 : Nat) "ScoreHandlesModel" "madeA" "I") ∈ lw_all := lw_in 707 (by decide +kernel) rfl
theorem qw708 : (Jvm.Cond.fieldLink "ScoreHandlesModel" (190 : Nat) "ScoreHandlesModel" "madeB" "I") ∈ lw_all := lw_in 708 (by decide +kernel) rfl
theorem qw709 : (Jvm.Cond.fieldLink "ScoreHandlesModel" (203 : Nat) "ScoreHandlesModel" "madeC" "I") ∈ lw_all := lw_in 709 (by decide +kernel) rfl
theorem qw710 : (Jvm.Cond.fieldLink "ScoreHandlesModel" (193 : Nat) "ScoreHandlesModel" "madeV" "J") ∈ lw_all := lw_in 710 (by decide +kernel) rfl
theorem qw711 : (Jvm.Cond.fieldLink "ScoreHandlesModel" (263 : Nat) "ScoreHandlesModel" "depth" "I") ∈ lw_all := lw_in 711 (by decide +kernel) rfl
theorem qw712 : (Jvm.Cond.fieldLink "ScoreHandlesModel" (54 : Nat) "ScoreHandlesModel" "frame" "[I") ∈ lw_all := lw_in 712 (by decide +kernel) rfl
theorem qw713 : (Jvm.Cond.fieldLink "ScoreHandlesModel" (57 : Nat) "ScoreHandlesModel" "phase" "[I") ∈ lw_all := lw_in 713 (by decide +kernel) rfl
theorem qw714 : (Jvm.Cond.fieldLink "ScoreHandlesModel" (60 : Nat) "ScoreHandlesModel" "par" "[J") ∈ lw_all := lw_in 714 (by decide +kernel) rfl
theorem qw715 : (Jvm.Cond.fieldLink "ScoreHandlesModel" (63 : Nat) "ScoreHandlesModel" "held" "[J") ∈ lw_all := lw_in 715 (by decide +kernel) rfl
theorem qw716 : (Jvm.Cond.fieldLink "ScoreHandlesModel" (66 : Nat) "ScoreHandlesModel" "turn" "[I") ∈ lw_all := lw_in 716 (by decide +kernel) rfl
theorem qw717 : (Jvm.Cond.fieldLink "ScoreHandlesModel" (69 : Nat) "ScoreHandlesModel" "saved" "[I") ∈ lw_all := lw_in 717 (by decide +kernel) rfl
theorem qw718 : (Jvm.Cond.fieldLink "ScoreHandlesModel" (266 : Nat) "ScoreHandlesModel" "back" "J") ∈ lw_all := lw_in 718 (by decide +kernel) rfl
theorem qw719 : (Jvm.Cond.fieldLink "ScoreHandlesModel" (257 : Nat) "ScoreHandlesModel" "failure" "I") ∈ lw_all := lw_in 719 (by decide +kernel) rfl
theorem qw720 : (Jvm.Cond.fieldLink "ScoreHandlesModel" (260 : Nat) "ScoreHandlesModel" "steps" "I") ∈ lw_all := lw_in 720 (by decide +kernel) rfl
theorem qw721 : (Jvm.Cond.fieldLink "ScoreHandlesModel" (269 : Nat) "ScoreHandlesModel" "failures" "I") ∈ lw_all := lw_in 721 (by decide +kernel) rfl
theorem qw722 : (Jvm.Cond.fieldLink "ScoreHandlesModel" (72 : Nat) "ScoreHandlesModel" "blamed" "I") ∈ lw_all := lw_in 722 (by decide +kernel) rfl
theorem qw723 : (Jvm.Cond.fieldLink "ScoreHandlesModel" (327 : Nat) "ScoreHandlesModel" "runs" "I") ∈ lw_all := lw_in 723 (by decide +kernel) rfl
theorem qw724 : (Jvm.Cond.fieldLink "ScoreHandlesModel" (333 : Nat) "ScoreHandlesModel" "value" "J") ∈ lw_all := lw_in 724 (by decide +kernel) rfl
theorem qw725 : (Jvm.Cond.fieldLink "ScoreHandlesModel" (75 : Nat) "ScoreHandlesModel" "hand" "[J") ∈ lw_all := lw_in 725 (by decide +kernel) rfl
theorem qw726 : (Jvm.Cond.lays "ScoreHandlesModel" "ScoreHandlesModel" "rows" "I") ∈ lw_all := lw_in 726 (by decide +kernel) rfl
theorem qw728 : (Jvm.Cond.laysFinal "ScoreHandlesModel" "ScoreHandlesModel" "laneOf" "[I") ∈ lw_all := lw_in 728 (by decide +kernel) rfl
theorem qw730 : (Jvm.Cond.laysFinal "ScoreHandlesModel" "ScoreHandlesModel" "sizeOf" "[I") ∈ lw_all := lw_in 730 (by decide +kernel) rfl
theorem qw732 : (Jvm.Cond.laysFinal "ScoreHandlesModel" "ScoreHandlesModel" "items" "[J") ∈ lw_all := lw_in 732 (by decide +kernel) rfl
theorem qw734 : (Jvm.Cond.lays "ScoreHandlesModel" "ScoreHandlesModel" "handResult" "I") ∈ lw_all := lw_in 734 (by decide +kernel) rfl
theorem qw736 : (Jvm.Cond.lays "ScoreHandlesModel" "ScoreHandlesModel" "handMany" "I") ∈ lw_all := lw_in 736 (by decide +kernel) rfl
theorem qw738 : (Jvm.Cond.laysFinal "ScoreHandlesModel" "ScoreHandlesModel" "handKind" "[I") ∈ lw_all := lw_in 738 (by decide +kernel) rfl
theorem qw740 : (Jvm.Cond.laysFinal "ScoreHandlesModel" "ScoreHandlesModel" "given" "[J") ∈ lw_all := lw_in 740 (by decide +kernel) rfl
theorem qw742 : (Jvm.Cond.lays "ScoreHandlesModel" "ScoreHandlesModel" "handles" "I") ∈ lw_all := lw_in 742 (by decide +kernel) rfl
theorem qw744 : (Jvm.Cond.laysFinal "ScoreHandlesModel" "ScoreHandlesModel" "sortOf" "[I") ∈ lw_all := lw_in 744 (by decide +kernel) rfl
theorem qw746 : (Jvm.Cond.laysFinal "ScoreHandlesModel" "ScoreHandlesModel" "aOf" "[I") ∈ lw_all := lw_in 746 (by decide +kernel) rfl
theorem qw748 : (Jvm.Cond.laysFinal "ScoreHandlesModel" "ScoreHandlesModel" "bOf" "[I") ∈ lw_all := lw_in 748 (by decide +kernel) rfl
theorem qw750 : (Jvm.Cond.laysFinal "ScoreHandlesModel" "ScoreHandlesModel" "cOf" "[I") ∈ lw_all := lw_in 750 (by decide +kernel) rfl
theorem qw752 : (Jvm.Cond.laysFinal "ScoreHandlesModel" "ScoreHandlesModel" "vOf" "[J") ∈ lw_all := lw_in 752 (by decide +kernel) rfl
theorem qw754 : (Jvm.Cond.laysFinal "ScoreHandlesModel" "ScoreHandlesModel" "manyOf" "[I") ∈ lw_all := lw_in 754 (by decide +kernel) rfl
theorem qw756 : (Jvm.Cond.laysFinal "ScoreHandlesModel" "ScoreHandlesModel" "kindOf" "[I") ∈ lw_all := lw_in 756 (by decide +kernel) rfl
theorem qw758 : (Jvm.Cond.laysFinal "ScoreHandlesModel" "ScoreHandlesModel" "resultOf" "[I") ∈ lw_all := lw_in 758 (by decide +kernel) rfl
theorem qw760 : (Jvm.Cond.lays "ScoreHandlesModel" "ScoreHandlesModel" "madeA" "I") ∈ lw_all := lw_in 760 (by decide +kernel) rfl
theorem qw762 : (Jvm.Cond.lays "ScoreHandlesModel" "ScoreHandlesModel" "madeB" "I") ∈ lw_all := lw_in 762 (by decide +kernel) rfl
theorem qw764 : (Jvm.Cond.lays "ScoreHandlesModel" "ScoreHandlesModel" "madeC" "I") ∈ lw_all := lw_in 764 (by decide +kernel) rfl
theorem qw766 : (Jvm.Cond.lays "ScoreHandlesModel" "ScoreHandlesModel" "madeV" "J") ∈ lw_all := lw_in 766 (by decide +kernel) rfl
theorem qw768 : (Jvm.Cond.lays "ScoreHandlesModel" "ScoreHandlesModel" "depth" "I") ∈ lw_all := lw_in 768 (by decide +kernel) rfl
theorem qw770 : (Jvm.Cond.laysFinal "ScoreHandlesModel" "ScoreHandlesModel" "frame" "[I") ∈ lw_all := lw_in 770 (by decide +kernel) rfl
theorem qw772 : (Jvm.Cond.laysFinal "ScoreHandlesModel" "ScoreHandlesModel" "phase" "[I") ∈ lw_all := lw_in 772 (by decide +kernel) rfl
theorem qw774 : (Jvm.Cond.laysFinal "ScoreHandlesModel" "ScoreHandlesModel" "par" "[J") ∈ lw_all := lw_in 774 (by decide +kernel) rfl
theorem qw776 : (Jvm.Cond.laysFinal "ScoreHandlesModel" "ScoreHandlesModel" "held" "[J") ∈ lw_all := lw_in 776 (by decide +kernel) rfl
theorem qw778 : (Jvm.Cond.laysFinal "ScoreHandlesModel" "ScoreHandlesModel" "turn" "[I") ∈ lw_all := lw_in 778 (by decide +kernel) rfl
theorem qw780 : (Jvm.Cond.laysFinal "ScoreHandlesModel" "ScoreHandlesModel" "saved" "[I") ∈ lw_all := lw_in 780 (by decide +kernel) rfl
theorem qw782 : (Jvm.Cond.lays "ScoreHandlesModel" "ScoreHandlesModel" "back" "J") ∈ lw_all := lw_in 782 (by decide +kernel) rfl
theorem qw784 : (Jvm.Cond.lays "ScoreHandlesModel" "ScoreHandlesModel" "failure" "I") ∈ lw_all := lw_in 784 (by decide +kernel) rfl
theorem qw786 : (Jvm.Cond.lays "ScoreHandlesModel" "ScoreHandlesModel" "steps" "I") ∈ lw_all := lw_in 786 (by decide +kernel) rfl
theorem qw788 : (Jvm.Cond.lays "ScoreHandlesModel" "ScoreHandlesModel" "failures" "I") ∈ lw_all := lw_in 788 (by decide +kernel) rfl
theorem qw790 : (Jvm.Cond.lays "ScoreHandlesModel" "ScoreHandlesModel" "blamed" "I") ∈ lw_all := lw_in 790 (by decide +kernel) rfl
theorem qw792 : (Jvm.Cond.lays "ScoreHandlesModel" "ScoreHandlesModel" "runs" "I") ∈ lw_all := lw_in 792 (by decide +kernel) rfl
theorem qw794 : (Jvm.Cond.lays "ScoreHandlesModel" "ScoreHandlesModel" "value" "J") ∈ lw_all := lw_in 794 (by decide +kernel) rfl
theorem qw796 : (Jvm.Cond.laysFinal "ScoreHandlesModel" "ScoreHandlesModel" "hand" "[J") ∈ lw_all := lw_in 796 (by decide +kernel) rfl
theorem qw799 : (Jvm.Cond.methodLink "ScoreHandlesLaw" (17 : Nat) ({ cls := "ScoreHandlesModel", name := "row", desc := "(II)I" } : Jvm.MethodName)) ∈ lw_all := lw_in 799 (by decide +kernel) rfl
theorem qw800 : (Jvm.Cond.instanceMethod ({ cls := "ScoreHandlesModel", name := "row", desc := "(II)I" } : Jvm.MethodName)) ∈ lw_all := lw_in 800 (by decide +kernel) rfl
theorem qw801 : (Jvm.Cond.selects "ScoreHandlesModel" ({ cls := "ScoreHandlesModel", name := "row", desc := "(II)I" } : Jvm.MethodName) ({ cls := "ScoreHandlesModel", name := "row", desc := "(II)I" } : Jvm.MethodName)) ∈ lw_all := lw_in 801 (by decide +kernel) rfl
theorem qw802 : (Jvm.Cond.code ({ cls := "ScoreHandlesModel", name := "row", desc := "(II)I" } : Jvm.MethodName) prog_13_method_3_code (3 : Nat) (Option.some Jvm.ClassFile.FieldType.int)) ∈ lw_all := lw_in 802 (by decide +kernel) rfl
theorem qw803 : (Jvm.Cond.constantLong "ScoreHandlesModel" (78 : Nat) (7 : Int64)) ∈ lw_all := lw_in 803 (by decide +kernel) rfl
theorem qw804 : (Jvm.Cond.methodLink "ScoreHandlesModel" (80 : Nat) ({ cls := "ScoreHandlesModel", name := "in", desc := "(JJJ)Z" } : Jvm.MethodName)) ∈ lw_all := lw_in 804 (by decide +kernel) rfl
theorem qw805 : (Jvm.Cond.static ({ cls := "ScoreHandlesModel", name := "in", desc := "(JJJ)Z" } : Jvm.MethodName)) ∈ lw_all := lw_in 805 (by decide +kernel) rfl
theorem qw806 : (Jvm.Cond.code ({ cls := "ScoreHandlesModel", name := "in", desc := "(JJJ)Z" } : Jvm.MethodName) prog_13_method_2_code (6 : Nat) (Option.some Jvm.ClassFile.FieldType.boolean)) ∈ lw_all := lw_in 806 (by decide +kernel) rfl
theorem qw807 : (Jvm.Cond.constantLong "ScoreHandlesModel" (84 : Nat) (8 : Int64)) ∈ lw_all := lw_in 807 (by decide +kernel) rfl
theorem qw808 : (Jvm.Cond.methodLink "ScoreHandlesModel" (89 : Nat) ({ cls := "ScoreHandlesModel", name := "freshRow", desc := "(II)I" } : Jvm.MethodName)) ∈ lw_all := lw_in 808 (by decide +kernel) rfl
theorem qw810 : (Jvm.Cond.instanceMethod ({ cls := "ScoreHandlesModel", name := "freshRow", desc := "(II)I" } : Jvm.MethodName)) ∈ lw_all := lw_in 810 (by decide +kernel) rfl
theorem qw811 : (Jvm.Cond.code ({ cls := "ScoreHandlesModel", name := "freshRow", desc := "(II)I" } : Jvm.MethodName) prog_13_method_4_code (4 : Nat) (Option.some Jvm.ClassFile.FieldType.int)) ∈ lw_all := lw_in 811 (by decide +kernel) rfl
theorem qw812 : (Jvm.Cond.methodLink "ScoreHandlesLaw" (24 : Nat) ({ cls := "ScoreHandlesModel", name := "put", desc := "(IIJ)I" } : Jvm.MethodName)) ∈ lw_all := lw_in 812 (by decide +kernel) rfl
theorem qw813 : (Jvm.Cond.instanceMethod ({ cls := "ScoreHandlesModel", name := "put", desc := "(IIJ)I" } : Jvm.MethodName)) ∈ lw_all := lw_in 813 (by decide +kernel) rfl
theorem qw814 : (Jvm.Cond.selects "ScoreHandlesModel" ({ cls := "ScoreHandlesModel", name := "put", desc := "(IIJ)I" } : Jvm.MethodName) ({ cls := "ScoreHandlesModel", name := "put", desc := "(IIJ)I" } : Jvm.MethodName)) ∈ lw_all := lw_in 814 (by decide +kernel) rfl
theorem qw815 : (Jvm.Cond.code ({ cls := "ScoreHandlesModel", name := "put", desc := "(IIJ)I" } : Jvm.MethodName) prog_13_method_7_code (5 : Nat) (Option.some Jvm.ClassFile.FieldType.int)) ∈ lw_all := lw_in 815 (by decide +kernel) rfl
theorem qw816 : (Jvm.Cond.methodLink "ScoreHandlesModel" (97 : Nat) ({ cls := "ScoreHandlesModel", name := "isItem", desc := "(JJ)Z" } : Jvm.MethodName)) ∈ lw_all := lw_in 816 (by decide +kernel) rfl
theorem qw818 : (Jvm.Cond.instanceMethod ({ cls := "ScoreHandlesModel", name := "isItem", desc := "(JJ)Z" } : Jvm.MethodName)) ∈ lw_all := lw_in 818 (by decide +kernel) rfl
theorem qw819 : (Jvm.Cond.code ({ cls := "ScoreHandlesModel", name := "isItem", desc := "(JJ)Z" } : Jvm.MethodName) prog_13_method_6_code (5 : Nat) (Option.some Jvm.ClassFile.FieldType.boolean)) ∈ lw_all := lw_in 819 (by decide +kernel) rfl
theorem qw820 : (Jvm.Cond.methodLink "ScoreHandlesModel" (93 : Nat) ({ cls := "ScoreHandlesModel", name := "isRow", desc := "(J)Z" } : Jvm.MethodName)) ∈ lw_all := lw_in 820 (by decide +kernel) rfl
theorem qw822 : (Jvm.Cond.instanceMethod ({ cls := "ScoreHandlesModel", name := "isRow", desc := "(J)Z" } : Jvm.MethodName)) ∈ lw_all := lw_in 822 (by decide +kernel) rfl
theorem qw823 : (Jvm.Cond.code ({ cls := "ScoreHandlesModel", name := "isRow", desc := "(J)Z" } : Jvm.MethodName) prog_13_method_5_code (3 : Nat) (Option.some Jvm.ClassFile.FieldType.boolean)) ∈ lw_all := lw_in 823 (by decide +kernel) rfl
theorem qw824 : (Jvm.Cond.methodLink "ScoreHandlesModel" (101 : Nat) ({ cls := "ScoreHandlesModel", name := "cast", desc := "(JI)J" } : Jvm.MethodName)) ∈ lw_all := lw_in 824 (by decide +kernel) rfl
theorem qw825 : (Jvm.Cond.static ({ cls := "ScoreHandlesModel", name := "cast", desc := "(JI)J" } : Jvm.MethodName)) ∈ lw_all := lw_in 825 (by decide +kernel) rfl
theorem qw826 : (Jvm.Cond.code ({ cls := "ScoreHandlesModel", name := "cast", desc := "(JI)J" } : Jvm.MethodName) prog_13_method_10_code (3 : Nat) (Option.some Jvm.ClassFile.FieldType.long)) ∈ lw_all := lw_in 826 (by decide +kernel) rfl
theorem qw827 : (Jvm.Cond.constantLong "ScoreHandlesModel" (105 : Nat) (2147483647 : Int64)) ∈ lw_all := lw_in 827 (by decide +kernel) rfl
theorem qw828 : (Jvm.Cond.constantLong "ScoreHandlesModel" (107 : Nat) (2139095040 : Int64)) ∈ lw_all := lw_in 828 (by decide +kernel) rfl
theorem qw829 : (Jvm.Cond.constantLong "ScoreHandlesModel" (109 : Nat) (2143289344 : Int64)) ∈ lw_all := lw_in 829 (by decide +kernel) rfl
theorem qw830 : (Jvm.Cond.constantLong "ScoreHandlesModel" (111 : Nat) (9223372036854775807 : Int64)) ∈ lw_all := lw_in 830 (by decide +kernel) rfl
theorem qw831 : (Jvm.Cond.constantLong "ScoreHandlesModel" (113 : Nat) (9218868437227405312 : Int64)) ∈ lw_all := lw_in 831 (by decide +kernel) rfl
theorem qw832 : (Jvm.Cond.constantLong "ScoreHandlesModel" (115 : Nat) (9221120237041090560 : Int64)) ∈ lw_all := lw_in 832 (by decide +kernel) rfl
theorem qw833 : (Jvm.Cond.methodLink "ScoreHandlesLaw" (29 : Nat) ({ cls := "ScoreHandlesModel", name := "item", desc := "(II)J" } : Jvm.MethodName)) ∈ lw_all := lw_in 833 (by decide +kernel) rfl
theorem qw834 : (Jvm.Cond.instanceMethod ({ cls := "ScoreHandlesModel", name := "item", desc := "(II)J" } : Jvm.MethodName)) ∈ lw_all := lw_in 834 (by decide +kernel) rfl
theorem qw835 : (Jvm.Cond.selects "ScoreHandlesModel" ({ cls := "ScoreHandlesModel", name := "item", desc := "(II)J" } : Jvm.MethodName) ({ cls := "ScoreHandlesModel", name := "item", desc := "(II)J" } : Jvm.MethodName)) ∈ lw_all := lw_in 835 (by decide +kernel) rfl
theorem qw836 : (Jvm.Cond.code ({ cls := "ScoreHandlesModel", name := "item", desc := "(II)J" } : Jvm.MethodName) prog_13_method_8_code (3 : Nat) (Option.some Jvm.ClassFile.FieldType.long)) ∈ lw_all := lw_in 836 (by decide +kernel) rfl
theorem qw837 : (Jvm.Cond.methodLink "ScoreHandlesLaw" (34 : Nat) ({ cls := "ScoreHandlesModel", name := "size", desc := "(I)I" } : Jvm.MethodName)) ∈ lw_all := lw_in 837 (by decide +kernel) rfl
theorem qw838 : (Jvm.Cond.instanceMethod ({ cls := "ScoreHandlesModel", name := "size", desc := "(I)I" } : Jvm.MethodName)) ∈ lw_all := lw_in 838 (by decide +kernel) rfl
theorem qw839 : (Jvm.Cond.selects "ScoreHandlesModel" ({ cls := "ScoreHandlesModel", name := "size", desc := "(I)I" } : Jvm.MethodName) ({ cls := "ScoreHandlesModel", name := "size", desc := "(I)I" } : Jvm.MethodName)) ∈ lw_all := lw_in 839 (by decide +kernel) rfl
theorem qw840 : (Jvm.Cond.code ({ cls := "ScoreHandlesModel", name := "size", desc := "(I)I" } : Jvm.MethodName) prog_13_method_9_code (2 : Nat) (Option.some Jvm.ClassFile.FieldType.int)) ∈ lw_all := lw_in 840 (by decide +kernel) rfl
theorem qw841 : (Jvm.Cond.methodLink "ScoreHandlesLaw" (39 : Nat) ({ cls := "ScoreHandlesModel", name := "type", desc := "(IIIIII)I" } : Jvm.MethodName)) ∈ lw_all := lw_in 841 (by decide +kernel) rfl
theorem qw842 : (Jvm.Cond.instanceMethod ({ cls := "ScoreHandlesModel", name := "type", desc := "(IIIIII)I" } : Jvm.MethodName)) ∈ lw_all := lw_in 842 (by decide +kernel) rfl
theorem qw843 : (Jvm.Cond.selects "ScoreHandlesModel" ({ cls := "ScoreHandlesModel", name := "type", desc := "(IIIIII)I" } : Jvm.MethodName) ({ cls := "ScoreHandlesModel", name := "type", desc := "(IIIIII)I" } : Jvm.MethodName)) ∈ lw_all := lw_in 843 (by decide +kernel) rfl
theorem qw844 : (Jvm.Cond.code ({ cls := "ScoreHandlesModel", name := "type", desc := "(IIIIII)I" } : Jvm.MethodName) prog_13_method_21_code (8 : Nat) (Option.some Jvm.ClassFile.FieldType.int)) ∈ lw_all := lw_in 844 (by decide +kernel) rfl
theorem qw845 : (Jvm.Cond.methodLink "ScoreHandlesModel" (155 : Nat) ({ cls := "ScoreHandlesModel", name := "isKind", desc := "(I)Z" } : Jvm.MethodName)) ∈ lw_all := lw_in 845 (by decide +kernel) rfl
theorem qw846 : (Jvm.Cond.static ({ cls := "ScoreHandlesModel", name := "isKind", desc := "(I)Z" } : Jvm.MethodName)) ∈ lw_all := lw_in 846 (by decide +kernel) rfl
theorem qw847 : (Jvm.Cond.code ({ cls := "ScoreHandlesModel", name := "isKind", desc := "(I)Z" } : Jvm.MethodName) prog_13_method_19_code (1 : Nat) (Option.some Jvm.ClassFile.FieldType.boolean)) ∈ lw_all := lw_in 847 (by decide +kernel) rfl
theorem qw848 : (Jvm.Cond.constantLong "ScoreHandlesModel" (153 : Nat) (16 : Int64)) ∈ lw_all := lw_in 848 (by decide +kernel) rfl
theorem qw849 : (Jvm.Cond.constantLong "ScoreHandlesModel" (117 : Nat) (4 : Int64)) ∈ lw_all := lw_in 849 (by decide +kernel) rfl
theorem qw850 : (Jvm.Cond.methodLink "ScoreHandlesLaw" (44 : Nat) ({ cls := "ScoreHandlesModel", name := "make", desc := "(IIIIJ)I" } : Jvm.MethodName)) ∈ lw_all := lw_in 850 (by decide +kernel) rfl
theorem qw851 : (Jvm.Cond.instanceMethod ({ cls := "ScoreHandlesModel", name := "make", desc := "(IIIIJ)I" } : Jvm.MethodName)) ∈ lw_all := lw_in 851 (by decide +kernel) rfl
theorem qw852 : (Jvm.Cond.selects "ScoreHandlesModel" ({ cls := "ScoreHandlesModel", name := "make", desc := "(IIIIJ)I" } : Jvm.MethodName) ({ cls := "ScoreHandlesModel", name := "make", desc := "(IIIIJ)I" } : Jvm.MethodName)) ∈ lw_all := lw_in 852 (by decide +kernel) rfl
theorem qw853 : (Jvm.Cond.code ({ cls := "ScoreHandlesModel", name := "make", desc := "(IIIIJ)I" } : Jvm.MethodName) prog_13_method_37_code (9 : Nat) (Option.some Jvm.ClassFile.FieldType.int)) ∈ lw_all := lw_in 853 (by decide +kernel) rfl
theorem qw854 : (Jvm.Cond.constantLong "ScoreHandlesModel" (223 : Nat) (22 : Int64)) ∈ lw_all := lw_in 854 (by decide +kernel) rfl
theorem qw855 : (Jvm.Cond.methodLink "ScoreHandlesModel" (225 : Nat) ({ cls := "ScoreHandlesModel", name := "makeFirst", desc := "(IIIJ)I" } : Jvm.MethodName)) ∈ lw_all := lw_in 855 (by decide +kernel) rfl
theorem qw857 : (Jvm.Cond.instanceMethod ({ cls := "ScoreHandlesModel", name := "makeFirst", desc := "(IIIJ)I" } : Jvm.MethodName)) ∈ lw_all := lw_in 857 (by decide +kernel) rfl
theorem qw858 : (Jvm.Cond.code ({ cls := "ScoreHandlesModel", name := "makeFirst", desc := "(IIIJ)I" } : Jvm.MethodName) prog_13_method_30_code (8 : Nat) (Option.some Jvm.ClassFile.FieldType.int)) ∈ lw_all := lw_in 858 (by decide +kernel) rfl
theorem qw859 : (Jvm.Cond.methodLink "ScoreHandlesModel" (178 : Nat) ({ cls := "ScoreHandlesModel", name := "isLane", desc := "(I)Z" } : Jvm.MethodName)) ∈ lw_all := lw_in 859 (by decide +kernel) rfl
theorem qw860 : (Jvm.Cond.static ({ cls := "ScoreHandlesModel", name := "isLane", desc := "(I)Z" } : Jvm.MethodName)) ∈ lw_all := lw_in 860 (by decide +kernel) rfl
theorem qw861 : (Jvm.Cond.code ({ cls := "ScoreHandlesModel", name := "isLane", desc := "(I)Z" } : Jvm.MethodName) prog_13_method_20_code (1 : Nat) (Option.some Jvm.ClassFile.FieldType.boolean)) ∈ lw_all := lw_in 861 (by decide +kernel) rfl
theorem qw862 : (Jvm.Cond.constantLong "ScoreHandlesModel" (181 : Nat) (9 : Int64)) ∈ lw_all := lw_in 862 (by decide +kernel) rfl
theorem qw863 : (Jvm.Cond.methodLink "ScoreHandlesModel" (183 : Nat) ({ cls := "ScoreHandlesModel", name := "isValue", desc := "(IJ)Z" } : Jvm.MethodName)) ∈ lw_all := lw_in 863 (by decide +kernel) rfl
theorem qw865 : (Jvm.Cond.instanceMethod ({ cls := "ScoreHandlesModel", name := "isValue", desc := "(IJ)Z" } : Jvm.MethodName)) ∈ lw_all := lw_in 865 (by decide +kernel) rfl
theorem qw866 : (Jvm.Cond.code ({ cls := "ScoreHandlesModel", name := "isValue", desc := "(IJ)Z" } : Jvm.MethodName) prog_13_method_22_code (4 : Nat) (Option.some Jvm.ClassFile.FieldType.boolean)) ∈ lw_all := lw_in 866 (by decide +kernel) rfl
theorem qw867 : (Jvm.Cond.constantLong "ScoreHandlesModel" (162 : Nat) (-1 : Int64)) ∈ lw_all := lw_in 867 (by decide +kernel) rfl
theorem qw868 : (Jvm.Cond.methodLink "ScoreHandlesModel" (197 : Nat) ({ cls := "ScoreHandlesModel", name := "gives", desc := "(I)V" } : Jvm.MethodName)) ∈ lw_all := lw_in 868 (by decide +kernel) rfl
theorem qw870 : (Jvm.Cond.instanceMethod ({ cls := "ScoreHandlesModel", name := "gives", desc := "(I)V" } : Jvm.MethodName)) ∈ lw_all := lw_in 870 (by decide +kernel) rfl
theorem qw871 : (Jvm.Cond.code ({ cls := "ScoreHandlesModel", name := "gives", desc := "(I)V" } : Jvm.MethodName) prog_13_method_26_code (2 : Nat) (Option.none : Option Jvm.ClassFile.FieldType)) ∈ lw_all := lw_in 871 (by decide +kernel) rfl
theorem qw872 : (Jvm.Cond.methodLink "ScoreHandlesModel" (170 : Nat) ({ cls := "ScoreHandlesModel", name := "takes", desc := "(I)V" } : Jvm.MethodName)) ∈ lw_all := lw_in 872 (by decide +kernel) rfl
theorem qw874 : (Jvm.Cond.instanceMethod ({ cls := "ScoreHandlesModel", name := "takes", desc := "(I)V" } : Jvm.MethodName)) ∈ lw_all := lw_in 874 (by decide +kernel) rfl
theorem qw875 : (Jvm.Cond.code ({ cls := "ScoreHandlesModel", name := "takes", desc := "(I)V" } : Jvm.MethodName) prog_13_method_25_code (2 : Nat) (Option.none : Option Jvm.ClassFile.FieldType)) ∈ lw_all := lw_in 875 (by decide +kernel) rfl
theorem qw876 : (Jvm.Cond.methodLink "ScoreHandlesModel" (229 : Nat) ({ cls := "ScoreHandlesModel", name := "makeFilter", desc := "(III)I" } : Jvm.MethodName)) ∈ lw_all := lw_in 876 (by decide +kernel) rfl
theorem qw878 : (Jvm.Cond.instanceMethod ({ cls := "ScoreHandlesModel", name := "makeFilter", desc := "(III)I" } : Jvm.MethodName)) ∈ lw_all := lw_in 878 (by decide +kernel) rfl
theorem qw879 : (Jvm.Cond.code ({ cls := "ScoreHandlesModel", name := "makeFilter", desc := "(III)I" } : Jvm.MethodName) prog_13_method_33_code (5 : Nat) (Option.some Jvm.ClassFile.FieldType.int)) ∈ lw_all := lw_in 879 (by decide +kernel) rfl
theorem qw880 : (Jvm.Cond.methodLink "ScoreHandlesModel" (200 : Nat) ({ cls := "ScoreHandlesModel", name := "isHandle", desc := "(I)Z" } : Jvm.MethodName)) ∈ lw_all := lw_in 880 (by decide +kernel) rfl
theorem qw882 : (Jvm.Cond.instanceMethod ({ cls := "ScoreHandlesModel", name := "isHandle", desc := "(I)Z" } : Jvm.MethodName)) ∈ lw_all := lw_in 882 (by decide +kernel) rfl
theorem qw883 : (Jvm.Cond.code ({ cls := "ScoreHandlesModel", name := "isHandle", desc := "(I)Z" } : Jvm.MethodName) prog_13_method_23_code (2 : Nat) (Option.some Jvm.ClassFile.FieldType.boolean)) ∈ lw_all := lw_in 883 (by decide +kernel) rfl
theorem qw884 : (Jvm.Cond.methodLink "ScoreHandlesModel" (167 : Nat) ({ cls := "ScoreHandlesModel", name := "kind", desc := "(II)I" } : Jvm.MethodName)) ∈ lw_all := lw_in 884 (by decide +kernel) rfl
theorem qw886 : (Jvm.Cond.instanceMethod ({ cls := "ScoreHandlesModel", name := "kind", desc := "(II)I" } : Jvm.MethodName)) ∈ lw_all := lw_in 886 (by decide +kernel) rfl
theorem qw887 : (Jvm.Cond.code ({ cls := "ScoreHandlesModel", name := "kind", desc := "(II)I" } : Jvm.MethodName) prog_13_method_24_code (3 : Nat) (Option.some Jvm.ClassFile.FieldType.int)) ∈ lw_all := lw_in 887 (by decide +kernel) rfl
theorem qw888 : (Jvm.Cond.methodLink "ScoreHandlesModel" (233 : Nat) ({ cls := "ScoreHandlesModel", name := "makeGuard", desc := "(III)I" } : Jvm.MethodName)) ∈ lw_all := lw_in 888 (by decide +kernel) rfl
theorem qw890 : (Jvm.Cond.instanceMethod ({ cls := "ScoreHandlesModel", name := "makeGuard", desc := "(III)I" } : Jvm.MethodName)) ∈ lw_all := lw_in 890 (by decide +kernel) rfl
theorem qw891 : (Jvm.Cond.code ({ cls := "ScoreHandlesModel", name := "makeGuard", desc := "(III)I" } : Jvm.MethodName) prog_13_method_34_code (4 : Nat) (Option.some Jvm.ClassFile.FieldType.int)) ∈ lw_all := lw_in 891 (by decide +kernel) rfl
theorem qw892 : (Jvm.Cond.methodLink "ScoreHandlesModel" (206 : Nat) ({ cls := "ScoreHandlesModel", name := "takesOf", desc := "(II)V" } : Jvm.MethodName)) ∈ lw_all := lw_in 892 (by decide +kernel) rfl
theorem qw894 : (Jvm.Cond.instanceMethod ({ cls := "ScoreHandlesModel", name := "takesOf", desc := "(II)V" } : Jvm.MethodName)) ∈ lw_all := lw_in 894 (by decide +kernel) rfl
theorem qw895 : (Jvm.Cond.code ({ cls := "ScoreHandlesModel", name := "takesOf", desc := "(II)V" } : Jvm.MethodName) prog_13_method_27_code (4 : Nat) (Option.none : Option Jvm.ClassFile.FieldType)) ∈ lw_all := lw_in 895 (by decide +kernel) rfl
theorem qw896 : (Jvm.Cond.methodLink "ScoreHandlesModel" (213 : Nat) ({ cls := "ScoreHandlesModel", name := "isAlike", desc := "(II)Z" } : Jvm.MethodName)) ∈ lw_all := lw_in 896 (by decide +kernel) rfl
theorem qw898 : (Jvm.Cond.instanceMethod ({ cls := "ScoreHandlesModel", name := "isAlike", desc := "(II)Z" } : Jvm.MethodName)) ∈ lw_all := lw_in 898 (by decide +kernel) rfl
theorem qw899 : (Jvm.Cond.code ({ cls := "ScoreHandlesModel", name := "isAlike", desc := "(II)Z" } : Jvm.MethodName) prog_13_method_29_code (3 : Nat) (Option.some Jvm.ClassFile.FieldType.boolean)) ∈ lw_all := lw_in 899 (by decide +kernel) rfl
theorem qw900 : (Jvm.Cond.methodLink "ScoreHandlesModel" (174 : Nat) ({ cls := "ScoreHandlesModel", name := "isFirst", desc := "(IIII)Z" } : Jvm.MethodName)) ∈ lw_all := lw_in 900 (by decide +kernel) rfl
theorem qw902 : (Jvm.Cond.instanceMethod ({ cls := "ScoreHandlesModel", name := "isFirst", desc := "(IIII)Z" } : Jvm.MethodName)) ∈ lw_all := lw_in 902 (by decide +kernel) rfl
theorem qw903 : (Jvm.Cond.code ({ cls := "ScoreHandlesModel", name := "isFirst", desc := "(IIII)Z" } : Jvm.MethodName) prog_13_method_28_code (7 : Nat) (Option.some Jvm.ClassFile.FieldType.boolean)) ∈ lw_all := lw_in 903 (by decide +kernel) rfl
theorem qw904 : (Jvm.Cond.methodLink "ScoreHandlesModel" (236 : Nat) ({ cls := "ScoreHandlesModel", name := "makeCatch", desc := "(III)I" } : Jvm.MethodName)) ∈ lw_all := lw_in 904 (by decide +kernel) rfl
theorem qw906 : (Jvm.Cond.instanceMethod ({ cls := "ScoreHandlesModel", name := "makeCatch", desc := "(III)I" } : Jvm.MethodName)) ∈ lw_all := lw_in 906 (by decide +kernel) rfl
theorem qw907 : (Jvm.Cond.code ({ cls := "ScoreHandlesModel", name := "makeCatch", desc := "(III)I" } : Jvm.MethodName) prog_13_method_35_code (4 : Nat) (Option.some Jvm.ClassFile.FieldType.int)) ∈ lw_all := lw_in 907 (by decide +kernel) rfl
theorem qw908 : (Jvm.Cond.constantLong "ScoreHandlesModel" (217 : Nat) (6 : Int64)) ∈ lw_all := lw_in 908 (by decide +kernel) rfl
theorem qw909 : (Jvm.Cond.constantLong "ScoreHandlesModel" (219 : Nat) (20 : Int64)) ∈ lw_all := lw_in 909 (by decide +kernel) rfl
theorem qw910 : (Jvm.Cond.constantLong "ScoreHandlesModel" (221 : Nat) (29 : Int64)) ∈ lw_all := lw_in 910 (by decide +kernel) rfl
theorem qw911 : (Jvm.Cond.methodLink "ScoreHandlesModel" (239 : Nat) ({ cls := "ScoreHandlesModel", name := "makeTwo", desc := "(III)I" } : Jvm.MethodName)) ∈ lw_all := lw_in 911 (by decide +kernel) rfl
theorem qw913 : (Jvm.Cond.instanceMethod ({ cls := "ScoreHandlesModel", name := "makeTwo", desc := "(III)I" } : Jvm.MethodName)) ∈ lw_all := lw_in 913 (by decide +kernel) rfl
theorem qw914 : (Jvm.Cond.code ({ cls := "ScoreHandlesModel", name := "makeTwo", desc := "(III)I" } : Jvm.MethodName) prog_13_method_32_code (5 : Nat) (Option.some Jvm.ClassFile.FieldType.int)) ∈ lw_all := lw_in 914 (by decide +kernel) rfl
theorem qw915 : (Jvm.Cond.methodLink "ScoreHandlesModel" (242 : Nat) ({ cls := "ScoreHandlesModel", name := "makeOne", desc := "(IIIIJ)I" } : Jvm.MethodName)) ∈ lw_all := lw_in 915 (by decide +kernel) rfl
theorem qw917 : (Jvm.Cond.instanceMethod ({ cls := "ScoreHandlesModel", name := "makeOne", desc := "(IIIIJ)I" } : Jvm.MethodName)) ∈ lw_all := lw_in 917 (by decide +kernel) rfl
theorem qw918 : (Jvm.Cond.code ({ cls := "ScoreHandlesModel", name := "makeOne", desc := "(IIIIJ)I" } : Jvm.MethodName) prog_13_method_31_code (9 : Nat) (Option.some Jvm.ClassFile.FieldType.int)) ∈ lw_all := lw_in 918 (by decide +kernel) rfl
theorem qw919 : (Jvm.Cond.methodLink "ScoreHandlesModel" (210 : Nat) ({ cls := "ScoreHandlesModel", name := "handGoes", desc := "(I)Z" } : Jvm.MethodName)) ∈ lw_all := lw_in 919 (by decide +kernel) rfl
theorem qw921 : (Jvm.Cond.instanceMethod ({ cls := "ScoreHandlesModel", name := "handGoes", desc := "(I)Z" } : Jvm.MethodName)) ∈ lw_all := lw_in 921 (by decide +kernel) rfl
theorem qw922 : (Jvm.Cond.code ({ cls := "ScoreHandlesModel", name := "handGoes", desc := "(I)Z" } : Jvm.MethodName) prog_13_method_39_code (4 : Nat) (Option.some Jvm.ClassFile.FieldType.boolean)) ∈ lw_all := lw_in 922 (by decide +kernel) rfl
theorem qw923 : (Jvm.Cond.methodLink "ScoreHandlesModel" (249 : Nat) ({ cls := "ScoreHandlesModel", name := "goes", desc := "(II)Z" } : Jvm.MethodName)) ∈ lw_all := lw_in 923 (by decide +kernel) rfl
theorem qw924 : (Jvm.Cond.static ({ cls := "ScoreHandlesModel", name := "goes", desc := "(II)Z" } : Jvm.MethodName)) ∈ lw_all := lw_in 924 (by decide +kernel) rfl
theorem qw925 : (Jvm.Cond.code ({ cls := "ScoreHandlesModel", name := "goes", desc := "(II)Z" } : Jvm.MethodName) prog_13_method_11_code (2 : Nat) (Option.some Jvm.ClassFile.FieldType.boolean)) ∈ lw_all := lw_in 925 (by decide +kernel) rfl
theorem qw926 : (Jvm.Cond.methodLink "ScoreHandlesModel" (246 : Nat) ({ cls := "ScoreHandlesModel", name := "isOne", desc := "(II)Z" } : Jvm.MethodName)) ∈ lw_all := lw_in 926 (by decide +kernel) rfl
theorem qw928 : (Jvm.Cond.instanceMethod ({ cls := "ScoreHandlesModel", name := "isOne", desc := "(II)Z" } : Jvm.MethodName)) ∈ lw_all := lw_in 928 (by decide +kernel) rfl
theorem qw929 : (Jvm.Cond.code ({ cls := "ScoreHandlesModel", name := "isOne", desc := "(II)Z" } : Jvm.MethodName) prog_13_method_36_code (4 : Nat) (Option.some Jvm.ClassFile.FieldType.boolean)) ∈ lw_all := lw_in 929 (by decide +kernel) rfl
theorem qw930 : (Jvm.Cond.methodLink "ScoreHandlesLaw" (48 : Nat) ({ cls := "ScoreHandlesModel", name := "told", desc := "(II)I" } : Jvm.MethodName)) ∈ lw_all := lw_in 930 (by decide +kernel) rfl
theorem qw931 : (Jvm.Cond.instanceMethod ({ cls := "ScoreHandlesModel", name := "told", desc := "(II)I" } : Jvm.MethodName)) ∈ lw_all := lw_in 931 (by decide +kernel) rfl
theorem qw932 : (Jvm.Cond.selects "ScoreHandlesModel" ({ cls := "ScoreHandlesModel", name := "told", desc := "(II)I" } : Jvm.MethodName) ({ cls := "ScoreHandlesModel", name := "told", desc := "(II)I" } : Jvm.MethodName)) ∈ lw_all := lw_in 932 (by decide +kernel) rfl
theorem qw933 : (Jvm.Cond.code ({ cls := "ScoreHandlesModel", name := "told", desc := "(II)I" } : Jvm.MethodName) prog_13_method_38_code (3 : Nat) (Option.some Jvm.ClassFile.FieldType.int)) ∈ lw_all := lw_in 933 (by decide +kernel) rfl
theorem qw934 : (Jvm.Cond.methodLink "ScoreHandlesLaw" (52 : Nat) ({ cls := "ScoreHandlesModel", name := "fits", desc := "(I)I" } : Jvm.MethodName)) ∈ lw_all := lw_in 934 (by decide +kernel) rfl
theorem qw935 : (Jvm.Cond.instanceMethod ({ cls := "ScoreHandlesModel", name := "fits", desc := "(I)I" } : Jvm.MethodName)) ∈ lw_all := lw_in 935 (by decide +kernel) rfl
theorem qw936 : (Jvm.Cond.selects "ScoreHandlesModel" ({ cls := "ScoreHandlesModel", name := "fits", desc := "(I)I" } : Jvm.MethodName) ({ cls := "ScoreHandlesModel", name := "fits", desc := "(I)I" } : Jvm.MethodName)) ∈ lw_all := lw_in 936 (by decide +kernel) rfl
theorem qw937 : (Jvm.Cond.code ({ cls := "ScoreHandlesModel", name := "fits", desc := "(I)I" } : Jvm.MethodName) prog_13_method_41_code (2 : Nat) (Option.some Jvm.ClassFile.FieldType.int)) ∈ lw_all := lw_in 937 (by decide +kernel) rfl
theorem qw938 : (Jvm.Cond.methodLink "ScoreHandlesModel" (252 : Nat) ({ cls := "ScoreHandlesModel", name := "isHand", desc := "(I)Z" } : Jvm.MethodName)) ∈ lw_all := lw_in 938 (by decide +kernel) rfl
theorem qw940 : (Jvm.Cond.instanceMethod ({ cls := "ScoreHandlesModel", name := "isHand", desc := "(I)Z" } : Jvm.MethodName)) ∈ lw_all := lw_in 940 (by decide +kernel) rfl
theorem qw941 : (Jvm.Cond.code ({ cls := "ScoreHandlesModel", name := "isHand", desc := "(I)Z" } : Jvm.MethodName) prog_13_method_40_code (4 : Nat) (Option.some Jvm.ClassFile.FieldType.boolean)) ∈ lw_all := lw_in 941 (by decide +kernel) rfl
theorem qw942 : (Jvm.Cond.methodLink "ScoreHandlesLaw" (57 : Nat) ({ cls := "ScoreHandlesModel", name := "give", desc := "(IJ)I" } : Jvm.MethodName)) ∈ lw_all := lw_in 942 (by decide +kernel) rfl
theorem qw943 : (Jvm.Cond.instanceMethod ({ cls := "ScoreHandlesModel", name := "give", desc := "(IJ)I" } : Jvm.MethodName)) ∈ lw_all := lw_in 943 (by decide +kernel) rfl
theorem qw944 : (Jvm.Cond.selects "ScoreHandlesModel" ({ cls := "ScoreHandlesModel", name := "give", desc := "(IJ)I" } : Jvm.MethodName) ({ cls := "ScoreHandlesModel", name := "give", desc := "(IJ)I" } : Jvm.MethodName)) ∈ lw_all := lw_in 944 (by decide +kernel) rfl
theorem qw945 : (Jvm.Cond.code ({ cls := "ScoreHandlesModel", name := "give", desc := "(IJ)I" } : Jvm.MethodName) prog_13_method_42_code (4 : Nat) (Option.some Jvm.ClassFile.FieldType.int)) ∈ lw_all := lw_in 945 (by decide +kernel) rfl
theorem qw946 : (Jvm.Cond.constantLong "ScoreHandlesModel" (255 : Nat) (3 : Int64)) ∈ lw_all := lw_in 946 (by decide +kernel) rfl
theorem qw947 : (Jvm.Cond.methodLink "ScoreHandlesLaw" (62 : Nat) ({ cls := "ScoreHandlesModel", name := "run", desc := "(IZ)I" } : Jvm.MethodName)) ∈ lw_all := lw_in 947 (by decide +kernel) rfl
theorem qw948 : (Jvm.Cond.instanceMethod ({ cls := "ScoreHandlesModel", name := "run", desc := "(IZ)I" } : Jvm.MethodName)) ∈ lw_all := lw_in 948 (by decide +kernel) rfl
theorem qw949 : (Jvm.Cond.selects "ScoreHandlesModel" ({ cls := "ScoreHandlesModel", name := "run", desc := "(IZ)I" } : Jvm.MethodName) ({ cls := "ScoreHandlesModel", name := "run", desc := "(IZ)I" } : Jvm.MethodName)) ∈ lw_all := lw_in 949 (by decide +kernel) rfl
theorem qw950 : (Jvm.Cond.code ({ cls := "ScoreHandlesModel", name := "run", desc := "(IZ)I" } : Jvm.MethodName) prog_13_method_58_code (4 : Nat) (Option.some Jvm.ClassFile.FieldType.int)) ∈ lw_all := lw_in 950 (by decide +kernel) rfl
theorem qw951 : (Jvm.Cond.methodLink "ScoreHandlesModel" (296 : Nat) ({ cls := "ScoreHandlesModel", name := "widen", desc := "(JII)J" } : Jvm.MethodName)) ∈ lw_all := lw_in 951 (by decide +kernel) rfl
theorem qw952 : (Jvm.Cond.static ({ cls := "ScoreHandlesModel", name := "widen", desc := "(JII)J" } : Jvm.MethodName)) ∈ lw_all := lw_in 952 (by decide +kernel) rfl
theorem qw953 : (Jvm.Cond.code ({ cls := "ScoreHandlesModel", name := "widen", desc := "(JII)J" } : Jvm.MethodName) prog_13_method_18_code (4 : Nat) (Option.some Jvm.ClassFile.FieldType.long)) ∈ lw_all := lw_in 953 (by decide +kernel) rfl
theorem qw954 : (Jvm.Cond.methodLink "ScoreHandlesModel" (138 : Nat) ({ cls := "java/lang/Float", name := "floatToIntBits", desc := "(F)I" } : Jvm.MethodName)) ∈ lw_all := lw_in 954 (by decide +kernel) rfl
theorem qw955 : (Jvm.Cond.static ({ cls := "java/lang/Float", name := "floatToIntBits", desc := "(F)I" } : Jvm.MethodName)) ∈ lw_all := lw_in 955 (by decide +kernel) rfl
theorem qw956 : (Jvm.Cond.code ({ cls := "java/lang/Float", name := "floatToIntBits", desc := "(F)I" } : Jvm.MethodName) prog_16_method_24_code (1 : Nat) (Option.some Jvm.ClassFile.FieldType.int)) ∈ lw_all := lw_in 956 (by decide +kernel) rfl
theorem qw957 : (Jvm.Cond.methodLink "java/lang/Float" (59 : Nat) ({ cls := "java/lang/Float", name := "isNaN", desc := "(F)Z" } : Jvm.MethodName)) ∈ lw_all := lw_in 957 (by decide +kernel) rfl
theorem qw958 : (Jvm.Cond.static ({ cls := "java/lang/Float", name := "isNaN", desc := "(F)Z" } : Jvm.MethodName)) ∈ lw_all := lw_in 958 (by decide +kernel) rfl
theorem qw959 : (Jvm.Cond.code ({ cls := "java/lang/Float", name := "isNaN", desc := "(F)Z" } : Jvm.MethodName) prog_16_method_6_code (1 : Nat) (Option.some Jvm.ClassFile.FieldType.boolean)) ∈ lw_all := lw_in 959 (by decide +kernel) rfl
theorem qw960 : (Jvm.Cond.methodLink "java/lang/Float" (74 : Nat) ({ cls := "java/lang/Float", name := "floatToRawIntBits", desc := "(F)I" } : Jvm.MethodName)) ∈ lw_all := lw_in 960 (by decide +kernel) rfl
theorem qw961 : (Jvm.Cond.static ({ cls := "java/lang/Float", name := "floatToRawIntBits", desc := "(F)I" } : Jvm.MethodName)) ∈ lw_all := lw_in 961 (by decide +kernel) rfl
theorem qw962 : (Jvm.Cond.native ({ cls := "java/lang/Float", name := "floatToRawIntBits", desc := "(F)I" } : Jvm.MethodName)) ∈ lw_all := lw_in 962 (by decide +kernel) rfl
theorem qw963 : (Jvm.Cond.constant "java/lang/Float" (77 : Nat) (2143289344 : Int32)) ∈ lw_all := lw_in 963 (by decide +kernel) rfl
theorem qw964 : (Jvm.Cond.methodLink "ScoreHandlesModel" (131 : Nat) ({ cls := "ScoreHandlesModel", name := "sizeBits", desc := "(JI)J" } : Jvm.MethodName)) ∈ lw_all := lw_in 964 (by decide +kernel) rfl
theorem qw965 : (Jvm.Cond.static ({ cls := "ScoreHandlesModel", name := "sizeBits", desc := "(JI)J" } : Jvm.MethodName)) ∈ lw_all := lw_in 965 (by decide +kernel) rfl
theorem qw966 : (Jvm.Cond.code ({ cls := "ScoreHandlesModel", name := "sizeBits", desc := "(JI)J" } : Jvm.MethodName) prog_13_method_14_code (3 : Nat) (Option.some Jvm.ClassFile.FieldType.long)) ∈ lw_all := lw_in 966 (by decide +kernel) rfl
theorem qw967 : (Jvm.Cond.methodLink "ScoreHandlesModel" (134 : Nat) ({ cls := "ScoreHandlesModel", name := "most", desc := "(I)J" } : Jvm.MethodName)) ∈ lw_all := lw_in 967 (by decide +kernel) rfl
theorem qw968 : (Jvm.Cond.static ({ cls := "ScoreHandlesModel", name := "most", desc := "(I)J" } : Jvm.MethodName)) ∈ lw_all := lw_in 968 (by decide +kernel) rfl
theorem qw969 : (Jvm.Cond.code ({ cls := "ScoreHandlesModel", name := "most", desc := "(I)J" } : Jvm.MethodName) prog_13_method_15_code (1 : Nat) (Option.some Jvm.ClassFile.FieldType.long)) ∈ lw_all := lw_in 969 (by decide +kernel) rfl
theorem qw970 : (Jvm.Cond.methodLink "ScoreHandlesModel" (142 : Nat) ({ cls := "ScoreHandlesModel", name := "none", desc := "(I)J" } : Jvm.MethodName)) ∈ lw_all := lw_in 970 (by decide +kernel) rfl
theorem qw971 : (Jvm.Cond.static ({ cls := "ScoreHandlesModel", name := "none", desc := "(I)J" } : Jvm.MethodName)) ∈ lw_all := lw_in 971 (by decide +kernel) rfl
theorem qw972 : (Jvm.Cond.code ({ cls := "ScoreHandlesModel", name := "none", desc := "(I)J" } : Jvm.MethodName) prog_13_method_16_code (1 : Nat) (Option.some Jvm.ClassFile.FieldType.long)) ∈ lw_all := lw_in 972 (by decide +kernel) rfl
theorem qw973 : (Jvm.Cond.methodLink "ScoreHandlesModel" (145 : Nat) ({ cls := "ScoreHandlesModel", name := "floatOf", desc := "(J)F" } : Jvm.MethodName)) ∈ lw_all := lw_in 973 (by decide +kernel) rfl
theorem qw974 : (Jvm.Cond.static ({ cls := "ScoreHandlesModel", name := "floatOf", desc := "(J)F" } : Jvm.MethodName)) ∈ lw_all := lw_in 974 (by decide +kernel) rfl
theorem qw975 : (Jvm.Cond.code ({ cls := "ScoreHandlesModel", name := "floatOf", desc := "(J)F" } : Jvm.MethodName) prog_13_method_12_code (2 : Nat) (Option.some Jvm.ClassFile.FieldType.float)) ∈ lw_all := lw_in 975 (by decide +kernel) rfl
theorem qw976 : (Jvm.Cond.methodLink "ScoreHandlesModel" (119 : Nat) ({ cls := "java/lang/Float", name := "intBitsToFloat", desc := "(I)F" } : Jvm.MethodName)) ∈ lw_all := lw_in 976 (by decide +kernel) rfl
theorem qw977 : (Jvm.Cond.static ({ cls := "java/lang/Float", name := "intBitsToFloat", desc := "(I)F" } : Jvm.MethodName)) ∈ lw_all := lw_in 977 (by decide +kernel) rfl
theorem qw978 : (Jvm.Cond.native ({ cls := "java/lang/Float", name := "intBitsToFloat", desc := "(I)F" } : Jvm.MethodName)) ∈ lw_all := lw_in 978 (by decide +kernel) rfl
theorem qw979 : (Jvm.Cond.methodLink "ScoreHandlesModel" (149 : Nat) ({ cls := "java/lang/Double", name := "doubleToLongBits", desc := "(D)J" } : Jvm.MethodName)) ∈ lw_all := lw_in 979 (by decide +kernel) rfl
theorem qw980 : (Jvm.Cond.static ({ cls := "java/lang/Double", name := "doubleToLongBits", desc := "(D)J" } : Jvm.MethodName)) ∈ lw_all := lw_in 980 (by decide +kernel) rfl
theorem qw981 : (Jvm.Cond.code ({ cls := "java/lang/Double", name := "doubleToLongBits", desc := "(D)J" } : Jvm.MethodName) prog_14_method_23_code (2 : Nat) (Option.some Jvm.ClassFile.FieldType.long)) ∈ lw_all := lw_in 981 (by decide +kernel) rfl
theorem qw982 : (Jvm.Cond.methodLink "java/lang/Double" (122 : Nat) ({ cls := "java/lang/Double", name := "isNaN", desc := "(D)Z" } : Jvm.MethodName)) ∈ lw_all := lw_in 982 (by decide +kernel) rfl
theorem qw983 : (Jvm.Cond.static ({ cls := "java/lang/Double", name := "isNaN", desc := "(D)Z" } : Jvm.MethodName)) ∈ lw_all := lw_in 983 (by decide +kernel) rfl
theorem qw984 : (Jvm.Cond.code ({ cls := "java/lang/Double", name := "isNaN", desc := "(D)Z" } : Jvm.MethodName) prog_14_method_6_code (2 : Nat) (Option.some Jvm.ClassFile.FieldType.boolean)) ∈ lw_all := lw_in 984 (by decide +kernel) rfl
theorem qw985 : (Jvm.Cond.methodLink "java/lang/Double" (134 : Nat) ({ cls := "java/lang/Double", name := "doubleToRawLongBits", desc := "(D)J" } : Jvm.MethodName)) ∈ lw_all := lw_in 985 (by decide +kernel) rfl
theorem qw986 : (Jvm.Cond.static ({ cls := "java/lang/Double", name := "doubleToRawLongBits", desc := "(D)J" } : Jvm.MethodName)) ∈ lw_all := lw_in 986 (by decide +kernel) rfl
theorem qw987 : (Jvm.Cond.native ({ cls := "java/lang/Double", name := "doubleToRawLongBits", desc := "(D)J" } : Jvm.MethodName)) ∈ lw_all := lw_in 987 (by decide +kernel) rfl
theorem qw988 : (Jvm.Cond.constantLong "java/lang/Double" (137 : Nat) (9221120237041090560 : Int64)) ∈ lw_all := lw_in 988 (by decide +kernel) rfl
theorem qw989 : (Jvm.Cond.methodLink "ScoreHandlesModel" (300 : Nat) ({ cls := "ScoreHandlesModel", name := "begin", desc := "(I)V" } : Jvm.MethodName)) ∈ lw_all := lw_in 989 (by decide +kernel) rfl
theorem qw991 : (Jvm.Cond.instanceMethod ({ cls := "ScoreHandlesModel", name := "begin", desc := "(I)V" } : Jvm.MethodName)) ∈ lw_all := lw_in 991 (by decide +kernel) rfl
theorem qw992 : (Jvm.Cond.code ({ cls := "ScoreHandlesModel", name := "begin", desc := "(I)V" } : Jvm.MethodName) prog_13_method_43_code (3 : Nat) (Option.none : Option Jvm.ClassFile.FieldType)) ∈ lw_all := lw_in 992 (by decide +kernel) rfl
theorem qw993 : (Jvm.Cond.methodLink "ScoreHandlesModel" (330 : Nat) ({ cls := "ScoreHandlesModel", name := "one", desc := "()V" } : Jvm.MethodName)) ∈ lw_all := lw_in 993 (by decide +kernel) rfl
theorem qw995 : (Jvm.Cond.instanceMethod ({ cls := "ScoreHandlesModel", name := "one", desc := "()V" } : Jvm.MethodName)) ∈ lw_all := lw_in 995 (by decide +kernel) rfl
theorem qw996 : (Jvm.Cond.code ({ cls := "ScoreHandlesModel", name := "one", desc := "()V" } : Jvm.MethodName) prog_13_method_57_code (4 : Nat) (Option.none : Option Jvm.ClassFile.FieldType)) ∈ lw_all := lw_in 996 (by decide +kernel) rfl
theorem qw997 : (Jvm.Cond.methodLink "ScoreHandlesModel" (309 : Nat) ({ cls := "ScoreHandlesModel", name := "acts", desc := "(I)V" } : Jvm.MethodName)) ∈ lw_all := lw_in 997 (by decide +kernel) rfl
theorem qw999 : (Jvm.Cond.instanceMethod ({ cls := "ScoreHandlesModel", name := "acts", desc := "(I)V" } : Jvm.MethodName)) ∈ lw_all := lw_in 999 (by decide +kernel) rfl
theorem qw1000 : (Jvm.Cond.code ({ cls := "ScoreHandlesModel", name := "acts", desc := "(I)V" } : Jvm.MethodName) prog_13_method_49_code (3 : Nat) (Option.none : Option Jvm.ClassFile.FieldType)) ∈ lw_all := lw_in 1000 (by decide +kernel) rfl
theorem qw1001 : (Jvm.Cond.methodLink "ScoreHandlesModel" (275 : Nat) ({ cls := "ScoreHandlesModel", name := "end", desc := "(J)V" } : Jvm.MethodName)) ∈ lw_all := lw_in 1001 (by decide +kernel) rfl
theorem qw1003 : (Jvm.Cond.instanceMethod ({ cls := "ScoreHandlesModel", name := "end", desc := "(J)V" } : Jvm.MethodName)) ∈ lw_all := lw_in 1003 (by decide +kernel) rfl
theorem qw1004 : (Jvm.Cond.code ({ cls := "ScoreHandlesModel", name := "end", desc := "(J)V" } : Jvm.MethodName) prog_13_method_44_code (3 : Nat) (Option.none : Option Jvm.ClassFile.FieldType)) ∈ lw_all := lw_in 1004 (by decide +kernel) rfl
theorem qw1005 : (Jvm.Cond.methodLink "ScoreHandlesModel" (286 : Nat) ({ cls := "ScoreHandlesModel", name := "reads", desc := "(IZ)V" } : Jvm.MethodName)) ∈ lw_all := lw_in 1005 (by decide +kernel) rfl
theorem qw1007 : (Jvm.Cond.instanceMethod ({ cls := "ScoreHandlesModel", name := "reads", desc := "(IZ)V" } : Jvm.MethodName)) ∈ lw_all := lw_in 1007 (by decide +kernel) rfl
theorem qw1008 : (Jvm.Cond.code ({ cls := "ScoreHandlesModel", name := "reads", desc := "(IZ)V" } : Jvm.MethodName) prog_13_method_47_code (9 : Nat) (Option.none : Option Jvm.ClassFile.FieldType)) ∈ lw_all := lw_in 1008 (by decide +kernel) rfl
theorem qw1009 : (Jvm.Cond.methodLink "ScoreHandlesModel" (272 : Nat) ({ cls := "ScoreHandlesModel", name := "fail", desc := "(I)V" } : Jvm.MethodName)) ∈ lw_all := lw_in 1009 (by decide +kernel) rfl
theorem qw1011 : (Jvm.Cond.instanceMethod ({ cls := "ScoreHandlesModel", name := "fail", desc := "(I)V" } : Jvm.MethodName)) ∈ lw_all := lw_in 1011 (by decide +kernel) rfl
theorem qw1012 : (Jvm.Cond.code ({ cls := "ScoreHandlesModel", name := "fail", desc := "(I)V" } : Jvm.MethodName) prog_13_method_45_code (2 : Nat) (Option.none : Option Jvm.ClassFile.FieldType)) ∈ lw_all := lw_in 1012 (by decide +kernel) rfl
theorem qw1013 : (Jvm.Cond.methodLink "ScoreHandlesModel" (290 : Nat) ({ cls := "ScoreHandlesModel", name := "reckons", desc := "(I)V" } : Jvm.MethodName)) ∈ lw_all := lw_in 1013 (by decide +kernel) rfl
theorem qw1015 : (Jvm.Cond.instanceMethod ({ cls := "ScoreHandlesModel", name := "reckons", desc := "(I)V" } : Jvm.MethodName)) ∈ lw_all := lw_in 1015 (by decide +kernel) rfl
theorem qw1016 : (Jvm.Cond.code ({ cls := "ScoreHandlesModel", name := "reckons", desc := "(I)V" } : Jvm.MethodName) prog_13_method_48_code (9 : Nat) (Option.none : Option Jvm.ClassFile.FieldType)) ∈ lw_all := lw_in 1016 (by decide +kernel) rfl
theorem qw1017 : (Jvm.Cond.methodLink "ScoreHandlesModel" (279 : Nat) ({ cls := "ScoreHandlesModel", name := "givesNone", desc := "(JJIZ)Z" } : Jvm.MethodName)) ∈ lw_all := lw_in 1017 (by decide +kernel) rfl
theorem qw1018 : (Jvm.Cond.static ({ cls := "ScoreHandlesModel", name := "givesNone", desc := "(JJIZ)Z" } : Jvm.MethodName)) ∈ lw_all := lw_in 1018 (by decide +kernel) rfl
theorem qw1019 : (Jvm.Cond.code ({ cls := "ScoreHandlesModel", name := "givesNone", desc := "(JJIZ)Z" } : Jvm.MethodName) prog_13_method_17_code (11 : Nat) (Option.some Jvm.ClassFile.FieldType.boolean)) ∈ lw_all := lw_in 1019 (by decide +kernel) rfl
theorem qw1020 : (Jvm.Cond.methodLink "ScoreHandlesModel" (283 : Nat) ({ cls := "ScoreHandlesModel", name := "doubleOf", desc := "(J)D" } : Jvm.MethodName)) ∈ lw_all := lw_in 1020 (by decide +kernel) rfl
theorem qw1021 : (Jvm.Cond.static ({ cls := "ScoreHandlesModel", name := "doubleOf", desc := "(J)D" } : Jvm.MethodName)) ∈ lw_all := lw_in 1021 (by decide +kernel) rfl
theorem qw1022 : (Jvm.Cond.code ({ cls := "ScoreHandlesModel", name := "doubleOf", desc := "(J)D" } : Jvm.MethodName) prog_13_method_13_code (2 : Nat) (Option.some Jvm.ClassFile.FieldType.double)) ∈ lw_all := lw_in 1022 (by decide +kernel) rfl
theorem qw1023 : (Jvm.Cond.methodLink "ScoreHandlesModel" (125 : Nat) ({ cls := "java/lang/Double", name := "longBitsToDouble", desc := "(J)D" } : Jvm.MethodName)) ∈ lw_all := lw_in 1023 (by decide +kernel) rfl
theorem qw1024 : (Jvm.Cond.static ({ cls := "java/lang/Double", name := "longBitsToDouble", desc := "(J)D" } : Jvm.MethodName)) ∈ lw_all := lw_in 1024 (by decide +kernel) rfl
theorem qw1025 : (Jvm.Cond.native ({ cls := "java/lang/Double", name := "longBitsToDouble", desc := "(J)D" } : Jvm.MethodName)) ∈ lw_all := lw_in 1025 (by decide +kernel) rfl
theorem qw1026 : (Jvm.Cond.methodLink "ScoreHandlesModel" (312 : Nat) ({ cls := "ScoreHandlesModel", name := "catches", desc := "(I)V" } : Jvm.MethodName)) ∈ lw_all := lw_in 1026 (by decide +kernel) rfl
theorem qw1028 : (Jvm.Cond.instanceMethod ({ cls := "ScoreHandlesModel", name := "catches", desc := "(I)V" } : Jvm.MethodName)) ∈ lw_all := lw_in 1028 (by decide +kernel) rfl
theorem qw1029 : (Jvm.Cond.code ({ cls := "ScoreHandlesModel", name := "catches", desc := "(I)V" } : Jvm.MethodName) prog_13_method_54_code (4 : Nat) (Option.none : Option Jvm.ClassFile.FieldType)) ∈ lw_all := lw_in 1029 (by decide +kernel) rfl
theorem qw1030 : (Jvm.Cond.methodLink "ScoreHandlesModel" (303 : Nat) ({ cls := "ScoreHandlesModel", name := "begins", desc := "(I)V" } : Jvm.MethodName)) ∈ lw_all := lw_in 1030 (by decide +kernel) rfl
theorem qw1032 : (Jvm.Cond.instanceMethod ({ cls := "ScoreHandlesModel", name := "begins", desc := "(I)V" } : Jvm.MethodName)) ∈ lw_all := lw_in 1032 (by decide +kernel) rfl
theorem qw1033 : (Jvm.Cond.code ({ cls := "ScoreHandlesModel", name := "begins", desc := "(I)V" } : Jvm.MethodName) prog_13_method_53_code (2 : Nat) (Option.none : Option Jvm.ClassFile.FieldType)) ∈ lw_all := lw_in 1033 (by decide +kernel) rfl
theorem qw1034 : (Jvm.Cond.methodLink "ScoreHandlesModel" (293 : Nat) ({ cls := "ScoreHandlesModel", name := "pass", desc := "(II)V" } : Jvm.MethodName)) ∈ lw_all := lw_in 1034 (by decide +kernel) rfl
theorem qw1036 : (Jvm.Cond.instanceMethod ({ cls := "ScoreHandlesModel", name := "pass", desc := "(II)V" } : Jvm.MethodName)) ∈ lw_all := lw_in 1036 (by decide +kernel) rfl
theorem qw1037 : (Jvm.Cond.code ({ cls := "ScoreHandlesModel", name := "pass", desc := "(II)V" } : Jvm.MethodName) prog_13_method_46_code (6 : Nat) (Option.none : Option Jvm.ClassFile.FieldType)) ∈ lw_all := lw_in 1037 (by decide +kernel) rfl
theorem qw1038 : (Jvm.Cond.methodLink "ScoreHandlesModel" (306 : Nat) ({ cls := "ScoreHandlesModel", name := "giveOn", desc := "()V" } : Jvm.MethodName)) ∈ lw_all := lw_in 1038 (by decide +kernel) rfl
theorem qw1040 : (Jvm.Cond.instanceMethod ({ cls := "ScoreHandlesModel", name := "giveOn", desc := "()V" } : Jvm.MethodName)) ∈ lw_all := lw_in 1040 (by decide +kernel) rfl
theorem qw1041 : (Jvm.Cond.code ({ cls := "ScoreHandlesModel", name := "giveOn", desc := "()V" } : Jvm.MethodName) prog_13_method_50_code (1 : Nat) (Option.none : Option Jvm.ClassFile.FieldType)) ∈ lw_all := lw_in 1041 (by decide +kernel) rfl
theorem qw1042 : (Jvm.Cond.methodLink "ScoreHandlesModel" (315 : Nat) ({ cls := "ScoreHandlesModel", name := "lasts", desc := "(I)V" } : Jvm.MethodName)) ∈ lw_all := lw_in 1042 (by decide +kernel) rfl
theorem qw1044 : (Jvm.Cond.instanceMethod ({ cls := "ScoreHandlesModel", name := "lasts", desc := "(I)V" } : Jvm.MethodName)) ∈ lw_all := lw_in 1044 (by decide +kernel) rfl
theorem qw1045 : (Jvm.Cond.code ({ cls := "ScoreHandlesModel", name := "lasts", desc := "(I)V" } : Jvm.MethodName) prog_13_method_55_code (3 : Nat) (Option.none : Option Jvm.ClassFile.FieldType)) ∈ lw_all := lw_in 1045 (by decide +kernel) rfl
theorem qw1046 : (Jvm.Cond.methodLink "ScoreHandlesModel" (318 : Nat) ({ cls := "ScoreHandlesModel", name := "loops", desc := "(I)V" } : Jvm.MethodName)) ∈ lw_all := lw_in 1046 (by decide +kernel) rfl
theorem qw1048 : (Jvm.Cond.instanceMethod ({ cls := "ScoreHandlesModel", name := "loops", desc := "(I)V" } : Jvm.MethodName)) ∈ lw_all := lw_in 1048 (by decide +kernel) rfl
theorem qw1049 : (Jvm.Cond.code ({ cls := "ScoreHandlesModel", name := "loops", desc := "(I)V" } : Jvm.MethodName) prog_13_method_56_code (3 : Nat) (Option.none : Option Jvm.ClassFile.FieldType)) ∈ lw_all := lw_in 1049 (by decide +kernel) rfl
theorem qw1050 : (Jvm.Cond.methodLink "ScoreHandlesModel" (321 : Nat) ({ cls := "ScoreHandlesModel", name := "handsOn", desc := "(I)V" } : Jvm.MethodName)) ∈ lw_all := lw_in 1050 (by decide +kernel) rfl
theorem qw1052 : (Jvm.Cond.instanceMethod ({ cls := "ScoreHandlesModel", name := "handsOn", desc := "(I)V" } : Jvm.MethodName)) ∈ lw_all := lw_in 1052 (by decide +kernel) rfl
theorem qw1053 : (Jvm.Cond.code ({ cls := "ScoreHandlesModel", name := "handsOn", desc := "(I)V" } : Jvm.MethodName) prog_13_method_51_code (5 : Nat) (Option.none : Option Jvm.ClassFile.FieldType)) ∈ lw_all := lw_in 1053 (by decide +kernel) rfl
theorem qw1054 : (Jvm.Cond.methodLink "ScoreHandlesModel" (324 : Nat) ({ cls := "ScoreHandlesModel", name := "goesOn", desc := "(I)V" } : Jvm.MethodName)) ∈ lw_all := lw_in 1054 (by decide +kernel) rfl
theorem qw1056 : (Jvm.Cond.instanceMethod ({ cls := "ScoreHandlesModel", name := "goesOn", desc := "(I)V" } : Jvm.MethodName)) ∈ lw_all := lw_in 1056 (by decide +kernel) rfl
theorem qw1057 : (Jvm.Cond.code ({ cls := "ScoreHandlesModel", name := "goesOn", desc := "(I)V" } : Jvm.MethodName) prog_13_method_52_code (2 : Nat) (Option.none : Option Jvm.ClassFile.FieldType)) ∈ lw_all := lw_in 1057 (by decide +kernel) rfl
theorem qw1058 : (Jvm.Cond.methodLink "ScoreHandlesLaw" (67 : Nat) ({ cls := "ScoreHandlesModel", name := "value", desc := "()J" } : Jvm.MethodName)) ∈ lw_all := lw_in 1058 (by decide +kernel) rfl
theorem qw1059 : (Jvm.Cond.instanceMethod ({ cls := "ScoreHandlesModel", name := "value", desc := "()J" } : Jvm.MethodName)) ∈ lw_all := lw_in 1059 (by decide +kernel) rfl
theorem qw1060 : (Jvm.Cond.selects "ScoreHandlesModel" ({ cls := "ScoreHandlesModel", name := "value", desc := "()J" } : Jvm.MethodName) ({ cls := "ScoreHandlesModel", name := "value", desc := "()J" } : Jvm.MethodName)) ∈ lw_all := lw_in 1060 (by decide +kernel) rfl
theorem qw1061 : (Jvm.Cond.code ({ cls := "ScoreHandlesModel", name := "value", desc := "()J" } : Jvm.MethodName) prog_13_method_59_code (1 : Nat) (Option.some Jvm.ClassFile.FieldType.long)) ∈ lw_all := lw_in 1061 (by decide +kernel) rfl
theorem qw1062 : (Jvm.Cond.methodLink "ScoreHandlesLaw" (71 : Nat) ({ cls := "ScoreHandlesModel", name := "last", desc := "(I)I" } : Jvm.MethodName)) ∈ lw_all := lw_in 1062 (by decide +kernel) rfl
theorem qw1063 : (Jvm.Cond.instanceMethod ({ cls := "ScoreHandlesModel", name := "last", desc := "(I)I" } : Jvm.MethodName)) ∈ lw_all := lw_in 1063 (by decide +kernel) rfl
theorem qw1064 : (Jvm.Cond.selects "ScoreHandlesModel" ({ cls := "ScoreHandlesModel", name := "last", desc := "(I)I" } : Jvm.MethodName) ({ cls := "ScoreHandlesModel", name := "last", desc := "(I)I" } : Jvm.MethodName)) ∈ lw_all := lw_in 1064 (by decide +kernel) rfl
theorem qw1065 : (Jvm.Cond.code ({ cls := "ScoreHandlesModel", name := "last", desc := "(I)I" } : Jvm.MethodName) prog_13_method_60_code (2 : Nat) (Option.some Jvm.ClassFile.FieldType.int)) ∈ lw_all := lw_in 1065 (by decide +kernel) rfl
theorem qw1066 : (Jvm.Cond.methodLink "ScoreHandlesLaw" (75 : Nat) ({ cls := "ScoreHandlesModel", name := "count", desc := "(I)I" } : Jvm.MethodName)) ∈ lw_all := lw_in 1066 (by decide +kernel) rfl
theorem qw1067 : (Jvm.Cond.instanceMethod ({ cls := "ScoreHandlesModel", name := "count", desc := "(I)I" } : Jvm.MethodName)) ∈ lw_all := lw_in 1067 (by decide +kernel) rfl
theorem qw1068 : (Jvm.Cond.selects "ScoreHandlesModel" ({ cls := "ScoreHandlesModel", name := "count", desc := "(I)I" } : Jvm.MethodName) ({ cls := "ScoreHandlesModel", name := "count", desc := "(I)I" } : Jvm.MethodName)) ∈ lw_all := lw_in 1068 (by decide +kernel) rfl
theorem qw1069 : (Jvm.Cond.code ({ cls := "ScoreHandlesModel", name := "count", desc := "(I)I" } : Jvm.MethodName) prog_13_method_61_code (2 : Nat) (Option.some Jvm.ClassFile.FieldType.int)) ∈ lw_all := lw_in 1069 (by decide +kernel) rfl
theorem qw1070 : (Jvm.Cond.constantLong "ScoreHandlesLaw" (18 : Nat) (4294967295 : Int64)) ∈ lw_all := lw_in 1070 (by decide +kernel) rfl
theorem qw1071 : (Jvm.Cond.fieldLink "ScoreHandles$Real" (41 : Nat) "ScoreHandles$Real" "signs" "J") ∈ lw_all := lw_in 1071 (by decide +kernel) rfl
theorem qw1072 : (Jvm.Cond.fieldLink "ScoreHandles$Real" (36 : Nat) "ScoreHandles$Real" "beyond" "I") ∈ lw_all := lw_in 1072 (by decide +kernel) rfl
theorem qw1073 : (Jvm.Cond.fieldLink "ScoreHandles$Real" (29 : Nat) "ScoreHandles$Real" "fraction" "I") ∈ lw_all := lw_in 1073 (by decide +kernel) rfl
theorem qw1074 : (Jvm.Cond.fieldLink "ScoreHandles$Real" (33 : Nat) "ScoreHandles$Real" "bias" "I") ∈ lw_all := lw_in 1074 (by decide +kernel) rfl
theorem qs0 : Cond.selects "ScoreHandles$Rows" ⟨"ScoreHandles$Rows", "added", "(II)I"⟩ ⟨"ScoreHandles$Rows", "added", "(II)I"⟩ ∈ lw_all := lw_inS (q := (⟨"ScoreHandles$Rows", "added", "(II)I"⟩, 2)) 0 (by decide +kernel) rfl
theorem qs1 : Cond.selects "ScoreHandles$Rows" ⟨"ScoreHandles$Rows", "at", "(J)LScoreHandles$Row;"⟩ ⟨"ScoreHandles$Rows", "at", "(J)LScoreHandles$Row;"⟩ ∈ lw_all := lw_inS (q := (⟨"ScoreHandles$Rows", "at", "(J)LScoreHandles$Row;"⟩, 2)) 1 (by decide +kernel) rfl
theorem qs2 : Cond.selects "ScoreHandles$Row" ⟨"ScoreHandles$Row", "has", "(J)Z"⟩ ⟨"ScoreHandles$Row", "has", "(J)Z"⟩ ∈ lw_all := lw_inS (q := (⟨"ScoreHandles$Row", "has", "(J)Z"⟩, 2)) 2 (by decide +kernel) rfl
theorem qs3 : Cond.selects "ScoreHandles$Real" ⟨"ScoreHandles$Real", "plain", "(J)J"⟩ ⟨"ScoreHandles$Real", "plain", "(J)J"⟩ ∈ lw_all := lw_inS (q := (⟨"ScoreHandles$Real", "plain", "(J)J"⟩, 7)) 3 (by decide +kernel) rfl
theorem qs4 : Cond.selects "ScoreHandles$Real" ⟨"ScoreHandles$Real", "isNoNumber", "(J)Z"⟩ ⟨"ScoreHandles$Real", "isNoNumber", "(J)Z"⟩ ∈ lw_all := lw_inS (q := (⟨"ScoreHandles$Real", "isNoNumber", "(J)Z"⟩, 7)) 4 (by decide +kernel) rfl
theorem qs5 : Cond.selects "ScoreHandles$Real" ⟨"ScoreHandles$Real", "magnitude", "(J)J"⟩ ⟨"ScoreHandles$Real", "magnitude", "(J)J"⟩ ∈ lw_all := lw_inS (q := (⟨"ScoreHandles$Real", "magnitude", "(J)J"⟩, 7)) 5 (by decide +kernel) rfl
theorem qs6 : Cond.selects "ScoreHandles$Real" ⟨"ScoreHandles$Real", "infinity", "()J"⟩ ⟨"ScoreHandles$Real", "infinity", "()J"⟩ ∈ lw_all := lw_inS (q := (⟨"ScoreHandles$Real", "infinity", "()J"⟩, 7)) 6 (by decide +kernel) rfl
theorem qs7 : Cond.selects "ScoreHandles$Real" ⟨"ScoreHandles$Real", "noNumber", "()J"⟩ ⟨"ScoreHandles$Real", "noNumber", "()J"⟩ ∈ lw_all := lw_inS (q := (⟨"ScoreHandles$Real", "noNumber", "()J"⟩, 7)) 7 (by decide +kernel) rfl
theorem qs8 : Cond.selects "ScoreHandles$Row" ⟨"ScoreHandles$Row", "set", "(JJ)V"⟩ ⟨"ScoreHandles$Row", "set", "(JJ)V"⟩ ∈ lw_all := lw_inS (q := (⟨"ScoreHandles$Row", "set", "(JJ)V"⟩, 2)) 8 (by decide +kernel) rfl
theorem qs9 : Cond.selects "ScoreHandles$Row" ⟨"ScoreHandles$Row", "get", "(J)J"⟩ ⟨"ScoreHandles$Row", "get", "(J)J"⟩ ∈ lw_all := lw_inS (q := (⟨"ScoreHandles$Row", "get", "(J)J"⟩, 2)) 9 (by decide +kernel) rfl
theorem qs10 : Cond.selects "ScoreHandles$Row" ⟨"ScoreHandles$Row", "many", "()I"⟩ ⟨"ScoreHandles$Row", "many", "()I"⟩ ∈ lw_all := lw_inS (q := (⟨"ScoreHandles$Row", "many", "()I"⟩, 2)) 10 (by decide +kernel) rfl
theorem qs11 : Cond.selects "ScoreHandles$Maker" ⟨"ScoreHandles$Maker", "isTold", "(LScoreHandles$Handle;)Z"⟩ ⟨"ScoreHandles$Maker", "isTold", "(LScoreHandles$Handle;)Z"⟩ ∈ lw_all := lw_inS (q := (⟨"ScoreHandles$Maker", "isTold", "(LScoreHandles$Handle;)Z"⟩, 2)) 11 (by decide +kernel) rfl
theorem qs12 : Cond.selects "ScoreHandles$Maker" ⟨"ScoreHandles$Maker", "isFirstTold", "(LScoreHandles$Handle;)Z"⟩ ⟨"ScoreHandles$Maker", "isFirstTold", "(LScoreHandles$Handle;)Z"⟩ ∈ lw_all := lw_inS (q := (⟨"ScoreHandles$Maker", "isFirstTold", "(LScoreHandles$Handle;)Z"⟩, 2)) 12 (by decide +kernel) rfl
theorem qs13 : Cond.selects "ScoreHandles$Handles" ⟨"ScoreHandles$Handles", "at", "(I)LScoreHandles$Handle;"⟩ ⟨"ScoreHandles$Handles", "at", "(I)LScoreHandles$Handle;"⟩ ∈ lw_all := lw_inS (q := (⟨"ScoreHandles$Handles", "at", "(I)LScoreHandles$Handle;"⟩, 2)) 13 (by decide +kernel) rfl
theorem qs14 : Cond.selects "ScoreHandles$Maker" ⟨"ScoreHandles$Maker", "isSecondTold", "(LScoreHandles$Handle;)Z"⟩ ⟨"ScoreHandles$Maker", "isSecondTold", "(LScoreHandles$Handle;)Z"⟩ ∈ lw_all := lw_inS (q := (⟨"ScoreHandles$Maker", "isSecondTold", "(LScoreHandles$Handle;)Z"⟩, 2)) 14 (by decide +kernel) rfl
theorem qs15 : Cond.selects "ScoreHandles$Maker" ⟨"ScoreHandles$Maker", "parametersOf", "(I)I"⟩ ⟨"ScoreHandles$Maker", "parametersOf", "(I)I"⟩ ∈ lw_all := lw_inS (q := (⟨"ScoreHandles$Maker", "parametersOf", "(I)I"⟩, 2)) 15 (by decide +kernel) rfl
theorem qs16 : Cond.selects "ScoreHandles$Handles" ⟨"ScoreHandles$Handles", "typeAt", "(I)LScoreHandles$Type;"⟩ ⟨"ScoreHandles$Handles", "typeAt", "(I)LScoreHandles$Type;"⟩ ∈ lw_all := lw_inS (q := (⟨"ScoreHandles$Handles", "typeAt", "(I)LScoreHandles$Type;"⟩, 2)) 16 (by decide +kernel) rfl
theorem qs17 : Cond.selects "ScoreHandles$Maker" ⟨"ScoreHandles$Maker", "isThirdTold", "(LScoreHandles$Handle;)Z"⟩ ⟨"ScoreHandles$Maker", "isThirdTold", "(LScoreHandles$Handle;)Z"⟩ ∈ lw_all := lw_inS (q := (⟨"ScoreHandles$Maker", "isThirdTold", "(LScoreHandles$Handle;)Z"⟩, 2)) 17 (by decide +kernel) rfl
theorem qs18 : Cond.selects "ScoreHandles$Maker" ⟨"ScoreHandles$Maker", "kindOfBits", "(LScoreHandles$Handle;)I"⟩ ⟨"ScoreHandles$Maker", "kindOfBits", "(LScoreHandles$Handle;)I"⟩ ∈ lw_all := lw_inS (q := (⟨"ScoreHandles$Maker", "kindOfBits", "(LScoreHandles$Handle;)I"⟩, 2)) 18 (by decide +kernel) rfl
theorem qs19 : Cond.selects "ScoreHandles$Type" ⟨"ScoreHandles$Type", "kind", "(I)I"⟩ ⟨"ScoreHandles$Type", "kind", "(I)I"⟩ ∈ lw_all := lw_inS (q := (⟨"ScoreHandles$Type", "kind", "(I)I"⟩, 3)) 19 (by decide +kernel) rfl
theorem qs20 : Cond.selects "ScoreHandles$Rows" ⟨"ScoreHandles$Rows", "mayBe", "(IJ)Z"⟩ ⟨"ScoreHandles$Rows", "mayBe", "(IJ)Z"⟩ ∈ lw_all := lw_inS (q := (⟨"ScoreHandles$Rows", "mayBe", "(IJ)Z"⟩, 2)) 20 (by decide +kernel) rfl
theorem qs21 : Cond.selects "ScoreHandles$Maker" ⟨"ScoreHandles$Maker", "typeOf", "(LScoreHandles$Handle;LScoreHandles$Type;)LScoreHandles$Type;"⟩ ⟨"ScoreHandles$Maker", "typeOf", "(LScoreHandles$Handle;LScoreHandles$Type;)LScoreHandles$Type;"⟩ ∈ lw_all := lw_inS (q := (⟨"ScoreHandles$Maker", "typeOf", "(LScoreHandles$Handle;LScoreHandles$Type;)LScoreHandles$Type;"⟩, 2)) 21 (by decide +kernel) rfl
theorem qs22 : Cond.selects "ScoreHandles$Type" ⟨"ScoreHandles$Type", "longer", "(II)LScoreHandles$Type;"⟩ ⟨"ScoreHandles$Type", "longer", "(II)LScoreHandles$Type;"⟩ ∈ lw_all := lw_inS (q := (⟨"ScoreHandles$Type", "longer", "(II)LScoreHandles$Type;"⟩, 3)) 22 (by decide +kernel) rfl
theorem qs23 : Cond.selects "ScoreHandles$Type" ⟨"ScoreHandles$Type", "swapped", "(I)LScoreHandles$Type;"⟩ ⟨"ScoreHandles$Type", "swapped", "(I)LScoreHandles$Type;"⟩ ∈ lw_all := lw_inS (q := (⟨"ScoreHandles$Type", "swapped", "(I)LScoreHandles$Type;"⟩, 3)) 23 (by decide +kernel) rfl
theorem qs24 : Cond.selects "ScoreHandles$Type" ⟨"ScoreHandles$Type", "changed", "(II)LScoreHandles$Type;"⟩ ⟨"ScoreHandles$Type", "changed", "(II)LScoreHandles$Type;"⟩ ∈ lw_all := lw_inS (q := (⟨"ScoreHandles$Type", "changed", "(II)LScoreHandles$Type;"⟩, 3)) 24 (by decide +kernel) rfl
theorem qs25 : Cond.selects "ScoreHandles$Type" ⟨"ScoreHandles$Type", "withoutFirst", "()LScoreHandles$Type;"⟩ ⟨"ScoreHandles$Type", "withoutFirst", "()LScoreHandles$Type;"⟩ ∈ lw_all := lw_inS (q := (⟨"ScoreHandles$Type", "withoutFirst", "()LScoreHandles$Type;"⟩, 3)) 25 (by decide +kernel) rfl
theorem qs26 : Cond.selects "ScoreHandles$Type" ⟨"ScoreHandles$Type", "goesTo", "(LScoreHandles$Type;)Z"⟩ ⟨"ScoreHandles$Type", "goesTo", "(LScoreHandles$Type;)Z"⟩ ∈ lw_all := lw_inS (q := (⟨"ScoreHandles$Type", "goesTo", "(LScoreHandles$Type;)Z"⟩, 3)) 26 (by decide +kernel) rfl
theorem qs27 : Cond.selects "ScoreHandles$Maker" ⟨"ScoreHandles$Maker", "typeOfSome", "(LScoreHandles$Handle;LScoreHandles$Type;)LScoreHandles$Type;"⟩ ⟨"ScoreHandles$Maker", "typeOfSome", "(LScoreHandles$Handle;LScoreHandles$Type;)LScoreHandles$Type;"⟩ ∈ lw_all := lw_inS (q := (⟨"ScoreHandles$Maker", "typeOfSome", "(LScoreHandles$Handle;LScoreHandles$Type;)LScoreHandles$Type;"⟩, 2)) 27 (by decide +kernel) rfl
theorem qs28 : Cond.selects "ScoreHandles$Type" ⟨"ScoreHandles$Type", "isFirstOf", "(LScoreHandles$Type;II)Z"⟩ ⟨"ScoreHandles$Type", "isFirstOf", "(LScoreHandles$Type;II)Z"⟩ ∈ lw_all := lw_inS (q := (⟨"ScoreHandles$Type", "isFirstOf", "(LScoreHandles$Type;II)Z"⟩, 3)) 28 (by decide +kernel) rfl
theorem qs29 : Cond.selects "ScoreHandles$Type" ⟨"ScoreHandles$Type", "giving", "(I)LScoreHandles$Type;"⟩ ⟨"ScoreHandles$Type", "giving", "(I)LScoreHandles$Type;"⟩ ∈ lw_all := lw_inS (q := (⟨"ScoreHandles$Type", "giving", "(I)LScoreHandles$Type;"⟩, 3)) 29 (by decide +kernel) rfl
theorem qs30 : Cond.selects "ScoreHandles$Type" ⟨"ScoreHandles$Type", "isSame", "(LScoreHandles$Type;)Z"⟩ ⟨"ScoreHandles$Type", "isSame", "(LScoreHandles$Type;)Z"⟩ ∈ lw_all := lw_inS (q := (⟨"ScoreHandles$Type", "isSame", "(LScoreHandles$Type;)Z"⟩, 3)) 30 (by decide +kernel) rfl
theorem qs31 : Cond.selects "ScoreHandles$Maker" ⟨"ScoreHandles$Maker", "bitsOf", "(LScoreHandles$Handle;)J"⟩ ⟨"ScoreHandles$Maker", "bitsOf", "(LScoreHandles$Handle;)J"⟩ ∈ lw_all := lw_inS (q := (⟨"ScoreHandles$Maker", "bitsOf", "(LScoreHandles$Handle;)J"⟩, 2)) 31 (by decide +kernel) rfl
theorem qs32 : Cond.selects "ScoreHandles$Handle" ⟨"ScoreHandles$Handle", "settle", "(LScoreHandles$Type;J)V"⟩ ⟨"ScoreHandles$Handle", "settle", "(LScoreHandles$Type;J)V"⟩ ∈ lw_all := lw_inS (q := (⟨"ScoreHandles$Handle", "settle", "(LScoreHandles$Type;J)V"⟩, 7)) 32 (by decide +kernel) rfl
theorem qs33 : Cond.selects "ScoreHandles$Handles" ⟨"ScoreHandles$Handles", "numberOf", "(LScoreHandles$Handle;)I"⟩ ⟨"ScoreHandles$Handles", "numberOf", "(LScoreHandles$Handle;)I"⟩ ∈ lw_all := lw_inS (q := (⟨"ScoreHandles$Handles", "numberOf", "(LScoreHandles$Handle;)I"⟩, 2)) 33 (by decide +kernel) rfl
theorem qs34 : Cond.selects "ScoreHandles$Handle" ⟨"ScoreHandles$Handle", "isMadeAs", "(LScoreHandles$Handle;)Z"⟩ ⟨"ScoreHandles$Handle", "isMadeAs", "(LScoreHandles$Handle;)Z"⟩ ∈ lw_all := lw_inS (q := (⟨"ScoreHandles$Handle", "isMadeAs", "(LScoreHandles$Handle;)Z"⟩, 7)) 34 (by decide +kernel) rfl
theorem qs35 : Cond.selects "ScoreHandles" ⟨"ScoreHandles", "givenRowsAreThere", "()Z"⟩ ⟨"ScoreHandles", "givenRowsAreThere", "()Z"⟩ ∈ lw_all := lw_inS (q := (⟨"ScoreHandles", "givenRowsAreThere", "()Z"⟩, 8)) 35 (by decide +kernel) rfl
theorem qs36 : Cond.selects "ScoreHandles$Runner" ⟨"ScoreHandles$Runner", "forget", "()V"⟩ ⟨"ScoreHandles$Runner", "forget", "()V"⟩ ∈ lw_all := lw_inS (q := (⟨"ScoreHandles$Runner", "forget", "()V"⟩, 7)) 36 (by decide +kernel) rfl
theorem qs37 : Cond.selects "ScoreHandles" ⟨"ScoreHandles", "handOverNumbers", "(LScoreHandles$Type;)V"⟩ ⟨"ScoreHandles", "handOverNumbers", "(LScoreHandles$Type;)V"⟩ ∈ lw_all := lw_inS (q := (⟨"ScoreHandles", "handOverNumbers", "(LScoreHandles$Type;)V"⟩, 8)) 37 (by decide +kernel) rfl
theorem qs38 : Cond.selects "ScoreHandles$Real" ⟨"ScoreHandles$Real", "fromWhole", "(J)J"⟩ ⟨"ScoreHandles$Real", "fromWhole", "(J)J"⟩ ∈ lw_all := lw_inS (q := (⟨"ScoreHandles$Real", "fromWhole", "(J)J"⟩, 7)) 38 (by decide +kernel) rfl
theorem qs39 : Cond.selects "ScoreHandles$Real" ⟨"ScoreHandles$Real", "rounded", "(ZJI)J"⟩ ⟨"ScoreHandles$Real", "rounded", "(ZJI)J"⟩ ∈ lw_all := lw_inS (q := (⟨"ScoreHandles$Real", "rounded", "(ZJI)J"⟩, 7)) 39 (by decide +kernel) rfl
theorem qs40 : Cond.selects "ScoreHandles$Real" ⟨"ScoreHandles$Real", "signed", "(ZJ)J"⟩ ⟨"ScoreHandles$Real", "signed", "(ZJ)J"⟩ ∈ lw_all := lw_inS (q := (⟨"ScoreHandles$Real", "signed", "(ZJ)J"⟩, 7)) 40 (by decide +kernel) rfl
theorem qs41 : Cond.selects "ScoreHandles$Real" ⟨"ScoreHandles$Real", "fromSingle", "(J)J"⟩ ⟨"ScoreHandles$Real", "fromSingle", "(J)J"⟩ ∈ lw_all := lw_inS (q := (⟨"ScoreHandles$Real", "fromSingle", "(J)J"⟩, 7)) 41 (by decide +kernel) rfl
theorem qs42 : Cond.selects "ScoreHandles$Real" ⟨"ScoreHandles$Real", "significand", "(J)J"⟩ ⟨"ScoreHandles$Real", "significand", "(J)J"⟩ ∈ lw_all := lw_inS (q := (⟨"ScoreHandles$Real", "significand", "(J)J"⟩, 7)) 42 (by decide +kernel) rfl
theorem qs43 : Cond.selects "ScoreHandles$Real" ⟨"ScoreHandles$Real", "power", "(J)I"⟩ ⟨"ScoreHandles$Real", "power", "(J)I"⟩ ∈ lw_all := lw_inS (q := (⟨"ScoreHandles$Real", "power", "(J)I"⟩, 7)) 43 (by decide +kernel) rfl
theorem qs44 : Cond.selects "ScoreHandles$Runner" ⟨"ScoreHandles$Runner", "hand", "(IIJ)V"⟩ ⟨"ScoreHandles$Runner", "hand", "(IIJ)V"⟩ ∈ lw_all := lw_inS (q := (⟨"ScoreHandles$Runner", "hand", "(IIJ)V"⟩, 7)) 44 (by decide +kernel) rfl
theorem qs45 : Cond.selects "ScoreHandles$Runner" ⟨"ScoreHandles$Runner", "perform", "(II)J"⟩ ⟨"ScoreHandles$Runner", "perform", "(II)J"⟩ ∈ lw_all := lw_inS (q := (⟨"ScoreHandles$Runner", "perform", "(II)J"⟩, 7)) 45 (by decide +kernel) rfl
theorem qs46 : Cond.selects "ScoreHandles$Runner" ⟨"ScoreHandles$Runner", "spent", "(I)J"⟩ ⟨"ScoreHandles$Runner", "spent", "(I)J"⟩ ∈ lw_all := lw_inS (q := (⟨"ScoreHandles$Runner", "spent", "(I)J"⟩, 7)) 46 (by decide +kernel) rfl
theorem qs47 : Cond.selects "ScoreHandles$Runner" ⟨"ScoreHandles$Runner", "taken", "(II)J"⟩ ⟨"ScoreHandles$Runner", "taken", "(II)J"⟩ ∈ lw_all := lw_inS (q := (⟨"ScoreHandles$Runner", "taken", "(II)J"⟩, 7)) 47 (by decide +kernel) rfl
theorem qs48 : Cond.selects "ScoreHandles$Real" ⟨"ScoreHandles$Real", "sumOf", "(JJ)J"⟩ ⟨"ScoreHandles$Real", "sumOf", "(JJ)J"⟩ ∈ lw_all := lw_inS (q := (⟨"ScoreHandles$Real", "sumOf", "(JJ)J"⟩, 7)) 48 (by decide +kernel) rfl
theorem qs49 : Cond.selects "ScoreHandles$Real" ⟨"ScoreHandles$Real", "sumBeyond", "(JJ)J"⟩ ⟨"ScoreHandles$Real", "sumBeyond", "(JJ)J"⟩ ∈ lw_all := lw_inS (q := (⟨"ScoreHandles$Real", "sumBeyond", "(JJ)J"⟩, 7)) 49 (by decide +kernel) rfl
theorem qs50 : Cond.selects "ScoreHandles$Real" ⟨"ScoreHandles$Real", "aligned", "(JI)J"⟩ ⟨"ScoreHandles$Real", "aligned", "(JI)J"⟩ ∈ lw_all := lw_inS (q := (⟨"ScoreHandles$Real", "aligned", "(JI)J"⟩, 7)) 50 (by decide +kernel) rfl
theorem qs51 : Cond.selects "ScoreHandles$Runner" ⟨"ScoreHandles$Runner", "quotient", "(LScoreHandles$Handle;JJ)J"⟩ ⟨"ScoreHandles$Runner", "quotient", "(LScoreHandles$Handle;JJ)J"⟩ ∈ lw_all := lw_inS (q := (⟨"ScoreHandles$Runner", "quotient", "(LScoreHandles$Handle;JJ)J"⟩, 7)) 51 (by decide +kernel) rfl
theorem qs52 : Cond.selects "ScoreHandles$Real" ⟨"ScoreHandles$Real", "quotientOf", "(JJ)J"⟩ ⟨"ScoreHandles$Real", "quotientOf", "(JJ)J"⟩ ∈ lw_all := lw_inS (q := (⟨"ScoreHandles$Real", "quotientOf", "(JJ)J"⟩, 7)) 52 (by decide +kernel) rfl
theorem qs53 : Cond.selects "ScoreHandles$Real" ⟨"ScoreHandles$Real", "divided", "(ZJJ)J"⟩ ⟨"ScoreHandles$Real", "divided", "(ZJJ)J"⟩ ∈ lw_all := lw_inS (q := (⟨"ScoreHandles$Real", "divided", "(ZJJ)J"⟩, 7)) 53 (by decide +kernel) rfl
theorem qs54 : Cond.selects "ScoreHandles$Runner" ⟨"ScoreHandles$Runner", "fail", "(LScoreHandles$Handle;I)J"⟩ ⟨"ScoreHandles$Runner", "fail", "(LScoreHandles$Handle;I)J"⟩ ∈ lw_all := lw_inS (q := (⟨"ScoreHandles$Runner", "fail", "(LScoreHandles$Handle;I)J"⟩, 7)) 54 (by decide +kernel) rfl
theorem qs55 : Cond.selects "ScoreHandles$Real" ⟨"ScoreHandles$Real", "isAbove", "(JJ)Z"⟩ ⟨"ScoreHandles$Real", "isAbove", "(JJ)Z"⟩ ∈ lw_all := lw_inS (q := (⟨"ScoreHandles$Real", "isAbove", "(JJ)Z"⟩, 7)) 55 (by decide +kernel) rfl
theorem qs56 : Cond.selects "ScoreHandles$Real" ⟨"ScoreHandles$Real", "ordered", "(J)J"⟩ ⟨"ScoreHandles$Real", "ordered", "(J)J"⟩ ∈ lw_all := lw_inS (q := (⟨"ScoreHandles$Real", "ordered", "(J)J"⟩, 7)) 56 (by decide +kernel) rfl
theorem qs57 : Cond.selects "ScoreHandles$Runner" ⟨"ScoreHandles$Runner", "arrange", "(LScoreHandles$Handle;I)J"⟩ ⟨"ScoreHandles$Runner", "arrange", "(LScoreHandles$Handle;I)J"⟩ ∈ lw_all := lw_inS (q := (⟨"ScoreHandles$Runner", "arrange", "(LScoreHandles$Handle;I)J"⟩, 7)) 57 (by decide +kernel) rfl
theorem qs58 : Cond.selects "ScoreHandles$Runner" ⟨"ScoreHandles$Runner", "handOn", "(III)V"⟩ ⟨"ScoreHandles$Runner", "handOn", "(III)V"⟩ ∈ lw_all := lw_inS (q := (⟨"ScoreHandles$Runner", "handOn", "(III)V"⟩, 7)) 58 (by decide +kernel) rfl
theorem qs59 : Cond.selects "ScoreHandles$Runner" ⟨"ScoreHandles$Runner", "filter", "(LScoreHandles$Handle;I)J"⟩ ⟨"ScoreHandles$Runner", "filter", "(LScoreHandles$Handle;I)J"⟩ ∈ lw_all := lw_inS (q := (⟨"ScoreHandles$Runner", "filter", "(LScoreHandles$Handle;I)J"⟩, 7)) 59 (by decide +kernel) rfl
theorem qs60 : Cond.selects "ScoreHandles$Runner" ⟨"ScoreHandles$Runner", "fold", "(LScoreHandles$Handle;I)J"⟩ ⟨"ScoreHandles$Runner", "fold", "(LScoreHandles$Handle;I)J"⟩ ∈ lw_all := lw_inS (q := (⟨"ScoreHandles$Runner", "fold", "(LScoreHandles$Handle;I)J"⟩, 7)) 60 (by decide +kernel) rfl
theorem qs61 : Cond.selects "ScoreHandles$Runner" ⟨"ScoreHandles$Runner", "thenOther", "(LScoreHandles$Handle;I)J"⟩ ⟨"ScoreHandles$Runner", "thenOther", "(LScoreHandles$Handle;I)J"⟩ ∈ lw_all := lw_inS (q := (⟨"ScoreHandles$Runner", "thenOther", "(LScoreHandles$Handle;I)J"⟩, 7)) 61 (by decide +kernel) rfl
theorem qs62 : Cond.selects "ScoreHandles$Runner" ⟨"ScoreHandles$Runner", "guard", "(LScoreHandles$Handle;I)J"⟩ ⟨"ScoreHandles$Runner", "guard", "(LScoreHandles$Handle;I)J"⟩ ∈ lw_all := lw_inS (q := (⟨"ScoreHandles$Runner", "guard", "(LScoreHandles$Handle;I)J"⟩, 7)) 62 (by decide +kernel) rfl
theorem qs63 : Cond.selects "ScoreHandles$Runner" ⟨"ScoreHandles$Runner", "catchFailure", "(LScoreHandles$Handle;I)J"⟩ ⟨"ScoreHandles$Runner", "catchFailure", "(LScoreHandles$Handle;I)J"⟩ ∈ lw_all := lw_inS (q := (⟨"ScoreHandles$Runner", "catchFailure", "(LScoreHandles$Handle;I)J"⟩, 7)) 63 (by decide +kernel) rfl
theorem qs64 : Cond.selects "ScoreHandles$Runner" ⟨"ScoreHandles$Runner", "doAtLast", "(LScoreHandles$Handle;I)J"⟩ ⟨"ScoreHandles$Runner", "doAtLast", "(LScoreHandles$Handle;I)J"⟩ ∈ lw_all := lw_inS (q := (⟨"ScoreHandles$Runner", "doAtLast", "(LScoreHandles$Handle;I)J"⟩, 7)) 64 (by decide +kernel) rfl
theorem qs65 : Cond.selects "ScoreHandles$Runner" ⟨"ScoreHandles$Runner", "loop", "(LScoreHandles$Handle;I)J"⟩ ⟨"ScoreHandles$Runner", "loop", "(LScoreHandles$Handle;I)J"⟩ ∈ lw_all := lw_inS (q := (⟨"ScoreHandles$Runner", "loop", "(LScoreHandles$Handle;I)J"⟩, 7)) 65 (by decide +kernel) rfl
theorem qs66 : Cond.selects "ScoreHandles$Runner" ⟨"ScoreHandles$Runner", "widen", "(LScoreHandles$Handle;I)J"⟩ ⟨"ScoreHandles$Runner", "widen", "(LScoreHandles$Handle;I)J"⟩ ∈ lw_all := lw_inS (q := (⟨"ScoreHandles$Runner", "widen", "(LScoreHandles$Handle;I)J"⟩, 7)) 66 (by decide +kernel) rfl
theorem qs67 : Cond.selects "ScoreHandles$Runner" ⟨"ScoreHandles$Runner", "act", "(LScoreHandles$Handle;I)J"⟩ ⟨"ScoreHandles$Runner", "act", "(LScoreHandles$Handle;I)J"⟩ ∈ lw_all := lw_inS (q := (⟨"ScoreHandles$Runner", "act", "(LScoreHandles$Handle;I)J"⟩, 7)) 67 (by decide +kernel) rfl
theorem qs68 : Cond.selects "ScoreHandles$Runner" ⟨"ScoreHandles$Runner", "read", "(LScoreHandles$Handle;JJ)J"⟩ ⟨"ScoreHandles$Runner", "read", "(LScoreHandles$Handle;JJ)J"⟩ ∈ lw_all := lw_inS (q := (⟨"ScoreHandles$Runner", "read", "(LScoreHandles$Handle;JJ)J"⟩, 7)) 68 (by decide +kernel) rfl
theorem qs69 : Cond.selects "ScoreHandles$Runner" ⟨"ScoreHandles$Runner", "write", "(LScoreHandles$Handle;JJJ)J"⟩ ⟨"ScoreHandles$Runner", "write", "(LScoreHandles$Handle;JJJ)J"⟩ ∈ lw_all := lw_inS (q := (⟨"ScoreHandles$Runner", "write", "(LScoreHandles$Handle;JJJ)J"⟩, 7)) 69 (by decide +kernel) rfl
theorem qs70 : Cond.selects "ScoreHandles$Runner" ⟨"ScoreHandles$Runner", "sizeOf", "(LScoreHandles$Handle;J)J"⟩ ⟨"ScoreHandles$Runner", "sizeOf", "(LScoreHandles$Handle;J)J"⟩ ∈ lw_all := lw_inS (q := (⟨"ScoreHandles$Runner", "sizeOf", "(LScoreHandles$Handle;J)J"⟩, 7)) 70 (by decide +kernel) rfl
theorem qs71 : Cond.selects "ScoreHandles$Runner" ⟨"ScoreHandles$Runner", "newRow", "(LScoreHandles$Handle;J)J"⟩ ⟨"ScoreHandles$Runner", "newRow", "(LScoreHandles$Handle;J)J"⟩ ∈ lw_all := lw_inS (q := (⟨"ScoreHandles$Runner", "newRow", "(LScoreHandles$Handle;J)J"⟩, 7)) 71 (by decide +kernel) rfl
theorem qs72 : Cond.selects "ScoreHandlesModel" ⟨"ScoreHandlesModel", "freshRow", "(II)I"⟩ ⟨"ScoreHandlesModel", "freshRow", "(II)I"⟩ ∈ lw_all := lw_inS (q := (⟨"ScoreHandlesModel", "freshRow", "(II)I"⟩, 36)) 72 (by decide +kernel) rfl
theorem qs73 : Cond.selects "ScoreHandlesModel" ⟨"ScoreHandlesModel", "isItem", "(JJ)Z"⟩ ⟨"ScoreHandlesModel", "isItem", "(JJ)Z"⟩ ∈ lw_all := lw_inS (q := (⟨"ScoreHandlesModel", "isItem", "(JJ)Z"⟩, 36)) 73 (by decide +kernel) rfl
theorem qs74 : Cond.selects "ScoreHandlesModel" ⟨"ScoreHandlesModel", "isRow", "(J)Z"⟩ ⟨"ScoreHandlesModel", "isRow", "(J)Z"⟩ ∈ lw_all := lw_inS (q := (⟨"ScoreHandlesModel", "isRow", "(J)Z"⟩, 36)) 74 (by decide +kernel) rfl
theorem qs75 : Cond.selects "ScoreHandlesModel" ⟨"ScoreHandlesModel", "makeFirst", "(IIIJ)I"⟩ ⟨"ScoreHandlesModel", "makeFirst", "(IIIJ)I"⟩ ∈ lw_all := lw_inS (q := (⟨"ScoreHandlesModel", "makeFirst", "(IIIJ)I"⟩, 36)) 75 (by decide +kernel) rfl
theorem qs76 : Cond.selects "ScoreHandlesModel" ⟨"ScoreHandlesModel", "isValue", "(IJ)Z"⟩ ⟨"ScoreHandlesModel", "isValue", "(IJ)Z"⟩ ∈ lw_all := lw_inS (q := (⟨"ScoreHandlesModel", "isValue", "(IJ)Z"⟩, 36)) 76 (by decide +kernel) rfl
theorem qs77 : Cond.selects "ScoreHandlesModel" ⟨"ScoreHandlesModel", "gives", "(I)V"⟩ ⟨"ScoreHandlesModel", "gives", "(I)V"⟩ ∈ lw_all := lw_inS (q := (⟨"ScoreHandlesModel", "gives", "(I)V"⟩, 36)) 77 (by decide +kernel) rfl
theorem qs78 : Cond.selects "ScoreHandlesModel" ⟨"ScoreHandlesModel", "takes", "(I)V"⟩ ⟨"ScoreHandlesModel", "takes", "(I)V"⟩ ∈ lw_all := lw_inS (q := (⟨"ScoreHandlesModel", "takes", "(I)V"⟩, 36)) 78 (by decide +kernel) rfl
theorem qs79 : Cond.selects "ScoreHandlesModel" ⟨"ScoreHandlesModel", "makeFilter", "(III)I"⟩ ⟨"ScoreHandlesModel", "makeFilter", "(III)I"⟩ ∈ lw_all := lw_inS (q := (⟨"ScoreHandlesModel", "makeFilter", "(III)I"⟩, 36)) 79 (by decide +kernel) rfl
theorem qs80 : Cond.selects "ScoreHandlesModel" ⟨"ScoreHandlesModel", "isHandle", "(I)Z"⟩ ⟨"ScoreHandlesModel", "isHandle", "(I)Z"⟩ ∈ lw_all := lw_inS (q := (⟨"ScoreHandlesModel", "isHandle", "(I)Z"⟩, 36)) 80 (by decide +kernel) rfl
theorem qs81 : Cond.selects "ScoreHandlesModel" ⟨"ScoreHandlesModel", "kind", "(II)I"⟩ ⟨"ScoreHandlesModel", "kind", "(II)I"⟩ ∈ lw_all := lw_inS (q := (⟨"ScoreHandlesModel", "kind", "(II)I"⟩, 36)) 81 (by decide +kernel) rfl
theorem qs82 : Cond.selects "ScoreHandlesModel" ⟨"ScoreHandlesModel", "makeGuard", "(III)I"⟩ ⟨"ScoreHandlesModel", "makeGuard", "(III)I"⟩ ∈ lw_all := lw_inS (q := (⟨"ScoreHandlesModel", "makeGuard", "(III)I"⟩, 36)) 82 (by decide +kernel) rfl
theorem qs83 : Cond.selects "ScoreHandlesModel" ⟨"ScoreHandlesModel", "takesOf", "(II)V"⟩ ⟨"ScoreHandlesModel", "takesOf", "(II)V"⟩ ∈ lw_all := lw_inS (q := (⟨"ScoreHandlesModel", "takesOf", "(II)V"⟩, 36)) 83 (by decide +kernel) rfl
theorem qs84 : Cond.selects "ScoreHandlesModel" ⟨"ScoreHandlesModel", "isAlike", "(II)Z"⟩ ⟨"ScoreHandlesModel", "isAlike", "(II)Z"⟩ ∈ lw_all := lw_inS (q := (⟨"ScoreHandlesModel", "isAlike", "(II)Z"⟩, 36)) 84 (by decide +kernel) rfl
theorem qs85 : Cond.selects "ScoreHandlesModel" ⟨"ScoreHandlesModel", "isFirst", "(IIII)Z"⟩ ⟨"ScoreHandlesModel", "isFirst", "(IIII)Z"⟩ ∈ lw_all := lw_inS (q := (⟨"ScoreHandlesModel", "isFirst", "(IIII)Z"⟩, 36)) 85 (by decide +kernel) rfl
theorem qs86 : Cond.selects "ScoreHandlesModel" ⟨"ScoreHandlesModel", "makeCatch", "(III)I"⟩ ⟨"ScoreHandlesModel", "makeCatch", "(III)I"⟩ ∈ lw_all := lw_inS (q := (⟨"ScoreHandlesModel", "makeCatch", "(III)I"⟩, 36)) 86 (by decide +kernel) rfl
theorem qs87 : Cond.selects "ScoreHandlesModel" ⟨"ScoreHandlesModel", "makeTwo", "(III)I"⟩ ⟨"ScoreHandlesModel", "makeTwo", "(III)I"⟩ ∈ lw_all := lw_inS (q := (⟨"ScoreHandlesModel", "makeTwo", "(III)I"⟩, 36)) 87 (by decide +kernel) rfl
theorem qs88 : Cond.selects "ScoreHandlesModel" ⟨"ScoreHandlesModel", "makeOne", "(IIIIJ)I"⟩ ⟨"ScoreHandlesModel", "makeOne", "(IIIIJ)I"⟩ ∈ lw_all := lw_inS (q := (⟨"ScoreHandlesModel", "makeOne", "(IIIIJ)I"⟩, 36)) 88 (by decide +kernel) rfl
theorem qs89 : Cond.selects "ScoreHandlesModel" ⟨"ScoreHandlesModel", "handGoes", "(I)Z"⟩ ⟨"ScoreHandlesModel", "handGoes", "(I)Z"⟩ ∈ lw_all := lw_inS (q := (⟨"ScoreHandlesModel", "handGoes", "(I)Z"⟩, 36)) 89 (by decide +kernel) rfl
theorem qs90 : Cond.selects "ScoreHandlesModel" ⟨"ScoreHandlesModel", "isOne", "(II)Z"⟩ ⟨"ScoreHandlesModel", "isOne", "(II)Z"⟩ ∈ lw_all := lw_inS (q := (⟨"ScoreHandlesModel", "isOne", "(II)Z"⟩, 36)) 90 (by decide +kernel) rfl
theorem qs91 : Cond.selects "ScoreHandlesModel" ⟨"ScoreHandlesModel", "isHand", "(I)Z"⟩ ⟨"ScoreHandlesModel", "isHand", "(I)Z"⟩ ∈ lw_all := lw_inS (q := (⟨"ScoreHandlesModel", "isHand", "(I)Z"⟩, 36)) 91 (by decide +kernel) rfl
theorem qs92 : Cond.selects "ScoreHandlesModel" ⟨"ScoreHandlesModel", "begin", "(I)V"⟩ ⟨"ScoreHandlesModel", "begin", "(I)V"⟩ ∈ lw_all := lw_inS (q := (⟨"ScoreHandlesModel", "begin", "(I)V"⟩, 36)) 92 (by decide +kernel) rfl
theorem qs93 : Cond.selects "ScoreHandlesModel" ⟨"ScoreHandlesModel", "one", "()V"⟩ ⟨"ScoreHandlesModel", "one", "()V"⟩ ∈ lw_all := lw_inS (q := (⟨"ScoreHandlesModel", "one", "()V"⟩, 36)) 93 (by decide +kernel) rfl
theorem qs94 : Cond.selects "ScoreHandlesModel" ⟨"ScoreHandlesModel", "acts", "(I)V"⟩ ⟨"ScoreHandlesModel", "acts", "(I)V"⟩ ∈ lw_all := lw_inS (q := (⟨"ScoreHandlesModel", "acts", "(I)V"⟩, 36)) 94 (by decide +kernel) rfl
theorem qs95 : Cond.selects "ScoreHandlesModel" ⟨"ScoreHandlesModel", "end", "(J)V"⟩ ⟨"ScoreHandlesModel", "end", "(J)V"⟩ ∈ lw_all := lw_inS (q := (⟨"ScoreHandlesModel", "end", "(J)V"⟩, 36)) 95 (by decide +kernel) rfl
theorem qs96 : Cond.selects "ScoreHandlesModel" ⟨"ScoreHandlesModel", "reads", "(IZ)V"⟩ ⟨"ScoreHandlesModel", "reads", "(IZ)V"⟩ ∈ lw_all := lw_inS (q := (⟨"ScoreHandlesModel", "reads", "(IZ)V"⟩, 36)) 96 (by decide +kernel) rfl
theorem qs97 : Cond.selects "ScoreHandlesModel" ⟨"ScoreHandlesModel", "fail", "(I)V"⟩ ⟨"ScoreHandlesModel", "fail", "(I)V"⟩ ∈ lw_all := lw_inS (q := (⟨"ScoreHandlesModel", "fail", "(I)V"⟩, 36)) 97 (by decide +kernel) rfl
theorem qs98 : Cond.selects "ScoreHandlesModel" ⟨"ScoreHandlesModel", "reckons", "(I)V"⟩ ⟨"ScoreHandlesModel", "reckons", "(I)V"⟩ ∈ lw_all := lw_inS (q := (⟨"ScoreHandlesModel", "reckons", "(I)V"⟩, 36)) 98 (by decide +kernel) rfl
theorem qs99 : Cond.selects "ScoreHandlesModel" ⟨"ScoreHandlesModel", "catches", "(I)V"⟩ ⟨"ScoreHandlesModel", "catches", "(I)V"⟩ ∈ lw_all := lw_inS (q := (⟨"ScoreHandlesModel", "catches", "(I)V"⟩, 36)) 99 (by decide +kernel) rfl
theorem qs100 : Cond.selects "ScoreHandlesModel" ⟨"ScoreHandlesModel", "begins", "(I)V"⟩ ⟨"ScoreHandlesModel", "begins", "(I)V"⟩ ∈ lw_all := lw_inS (q := (⟨"ScoreHandlesModel", "begins", "(I)V"⟩, 36)) 100 (by decide +kernel) rfl
theorem qs101 : Cond.selects "ScoreHandlesModel" ⟨"ScoreHandlesModel", "pass", "(II)V"⟩ ⟨"ScoreHandlesModel", "pass", "(II)V"⟩ ∈ lw_all := lw_inS (q := (⟨"ScoreHandlesModel", "pass", "(II)V"⟩, 36)) 101 (by decide +kernel) rfl
theorem qs102 : Cond.selects "ScoreHandlesModel" ⟨"ScoreHandlesModel", "giveOn", "()V"⟩ ⟨"ScoreHandlesModel", "giveOn", "()V"⟩ ∈ lw_all := lw_inS (q := (⟨"ScoreHandlesModel", "giveOn", "()V"⟩, 36)) 102 (by decide +kernel) rfl
theorem qs103 : Cond.selects "ScoreHandlesModel" ⟨"ScoreHandlesModel", "lasts", "(I)V"⟩ ⟨"ScoreHandlesModel", "lasts", "(I)V"⟩ ∈ lw_all := lw_inS (q := (⟨"ScoreHandlesModel", "lasts", "(I)V"⟩, 36)) 103 (by decide +kernel) rfl
theorem qs104 : Cond.selects "ScoreHandlesModel" ⟨"ScoreHandlesModel", "loops", "(I)V"⟩ ⟨"ScoreHandlesModel", "loops", "(I)V"⟩ ∈ lw_all := lw_inS (q := (⟨"ScoreHandlesModel", "loops", "(I)V"⟩, 36)) 104 (by decide +kernel) rfl
theorem qs105 : Cond.selects "ScoreHandlesModel" ⟨"ScoreHandlesModel", "handsOn", "(I)V"⟩ ⟨"ScoreHandlesModel", "handsOn", "(I)V"⟩ ∈ lw_all := lw_inS (q := (⟨"ScoreHandlesModel", "handsOn", "(I)V"⟩, 36)) 105 (by decide +kernel) rfl
theorem qs106 : Cond.selects "ScoreHandlesModel" ⟨"ScoreHandlesModel", "goesOn", "(I)V"⟩ ⟨"ScoreHandlesModel", "goesOn", "(I)V"⟩ ∈ lw_all := lw_inS (q := (⟨"ScoreHandlesModel", "goesOn", "(I)V"⟩, 36)) 106 (by decide +kernel) rfl
end
section
/-! contracts of our own form: the room that a call needs and what it makes are told apart; the end is told of the heap alone -/
def jq_T (Y : Nat → ClassId) : List (ClassId × FieldType) := [(Y 0, .int), (Y 1, .long), (Y 2, .object "ScoreHandles$Handle"), (Y 3, .object "ScoreHandles$Row")]
def rc_f (k : Nat) : Int32 := if k = 0 then 23 else 52
def rc_b (k : Nat) : Int32 := if k = 0 then 127 else 1023
def rc_y (k : Nat) : Int32 := if k = 0 then 255 else 2047
def rc_s (k : Nat) : Int64 := if k = 0 then (-2147483648) else (-9223372036854775808)
/-- the two constants of Real: where they stand, what they hold -/
def jq_R (aR : Nat → Nat) (A : Nat → Prop) (U : State) (H : Heap) : Prop := ∀ k, k < 2 →
  va_Z "ScoreHandles$Real" (if k = 0 then "SINGLE" else "DOUBLE") "LScoreHandles$Real;" (.ref (aR k)) A U H ∧ va_O "ScoreHandles$Real" (aR k) A U H ∧
  va_OF "ScoreHandles$Real" "fraction" "I" (.int (rc_f k)) (aR k) A U H ∧ va_OF "ScoreHandles$Real" "bias" "I" (.int (rc_b k)) (aR k) A U H ∧
  va_OF "ScoreHandles$Real" "beyond" "I" (.int (rc_y k)) (aR k) A U H ∧ va_OF "ScoreHandles$Real" "signs" "J" (.long (rc_s k)) (aR k) A U H
theorem jq_R.moved {aR : Nat → Nat} {A : Nat → Prop} {u U : State} {H : Heap} (hvm : u.vm.Alike U.vm) (h : jq_R aR A u H) : jq_R aR A U H := fun k hk =>
  ⟨va_Z.moved hvm (h k hk).1, va_O.moved hvm (h k hk).2.1, va_OF.moved hvm (h k hk).2.2.1, va_OF.moved hvm (h k hk).2.2.2.1, va_OF.moved hvm (h k hk).2.2.2.2.1, va_OF.moved hvm (h k hk).2.2.2.2.2⟩
theorem jq_R.kept {aR : Nat → Nat} {A : Nat → Prop} {U : State} {H H1 : Heap} (h : jq_R aR A U H) (hq : ∀ a : Nat, a < H.size → ¬ A a → H1[a]? = H[a]?) : jq_R aR A U H1 := fun k hk =>
  ⟨(h k hk).1.kept hq, (h k hk).2.1.kept hq, (h k hk).2.2.1.kept hq, (h k hk).2.2.2.1.kept hq, (h k hk).2.2.2.2.1.kept hq, (h k hk).2.2.2.2.2.kept hq⟩
theorem jq_R.narrow {aR : Nat → Nat} {A B : Nat → Prop} {U : State} {H : Heap} (h : jq_R aR A U H) (hq : ∀ q, B q → A q) : jq_R aR B U H := fun k hk =>
  ⟨(h k hk).1.narrow hq, (h k hk).2.1.narrow hq, (h k hk).2.2.1.narrow hq, (h k hk).2.2.2.1.narrow hq, (h k hk).2.2.2.2.1.narrow hq, (h k hk).2.2.2.2.2.narrow hq⟩
/-- what every method may take as given of the tables, and of the constants -/
def jq_K (D : va_G) (Y : Nat → ClassId) (aR : Nat → Nat) (A : Nat → Prop) (U : State) : Prop :=
  va_K D vwCl (jq_T Y) U ∧ (∀ w ∈ lw_nest, va_Nw w U) ∧ va_AO "ScoreHandles$Handle" U ∧ va_AO "ScoreHandles$Row" U ∧ (∀ q, U.heap.size ≤ q → A q) ∧ jq_R aR A U U.heap
theorem jq_nest {s U : State} (hW : s.WarmedH U.vm) (h : ∀ w ∈ lw_nest, va_Nw w s) : ∀ w ∈ lw_nest, va_Nw w U := by
  intro w hw
  have h1 := h w hw
  have h2 : lw_isNest w = true := (List.mem_filter.mp hw).2
  cases w <;> first | exact va_Nw.warmF hW h1 | exact va_Nw.warmM hW h1 | (exact absurd h2 (by simp [lw_isNest]))
theorem jq_K.at {D : va_G} {Y : Nat → ClassId} {aR : Nat → Nat} {A A' : Nat → Prop} {s U : State} {H : Heap} {locs : List Loc} (h : jq_K D Y aR A s) (hS : va_S A s.heap H locs) (hU : U.heap = H) (hW : s.WarmedH U.vm) (hAA : ∀ q, A' q → A q) (hA : ∀ q, H.size ≤ q → A' q) : jq_K D Y aR A' U := by
  obtain ⟨h1, h2, h3, h4, h5, h6⟩ := h
  refine ⟨va_K.moved hW.alike h1, jq_nest hW h2, va_AO.moved hW.alike h3, va_AO.moved hW.alike h4, fun q hq => hA q (by rw [← hU]; exact hq), ?_⟩
  rw [hU]
  exact ((h6.moved hW.alike).kept hS.2.1).narrow hAA
/-- the contract -/
def jq_Met (l : Launch) (y : MethodName) (cc : ByteArray) (mx : Nat) (rt : Option FieldType) (fr lo rc rs : Nat) (Pc : Array Value → State → Prop) (A : Nat → Prop) (Qp : Option Value → Nat → Nat → Heap → Prop) : Prop :=
  MetFree l y (headSpec (Cond.code y cc mx rt :: lw_all) { frames := fr, cells := rc, slots := rs, locals := lo }) Pc (fun _ _ _ _ _ => True)
    (fun _ st o t => ∃ (v : Option Value) (L : List Loc) (k n : Nat), o = .returned v ∧ FrameEnd st o t L k n ∧ (∀ q ∈ L, A q.base) ∧ va_F A st t ∧ Qp v k n t.heap)
def jq_Pc (D : va_G) (Y : Nat → ClassId) (aR : Nat → Nat) (A : Nat → Prop) (av : List Value) (B : Heap → Prop) : Array Value → State → Prop := va_Pc av (fun U => jq_K D Y aR A U ∧ B U.heap)
def jq_C (l : Launch) (D : va_G) (Y : Nat → ClassId) (aR : Nat → Nat) (A : Nat → Prop) (y : MethodName) (cc : ByteArray) (mx : Nat) (rt : Option FieldType) (fr lo rc rs : Nat) (av : List Value) (B : Heap → Prop) (Qp : Option Value → Nat → Nat → Heap → Prop) : Prop :=
  jq_Met l y cc mx rt fr lo rc rs (jq_Pc D Y aR A av B) A Qp
def jq_Z (below : List Frame) (A : Nat → Prop) (Qp : Option Value → Nat → Nat → Heap → Prop) (s : State) : State → Prop := fun t =>
  ∃ o, t.status = .running ∧ Ended t below o ∧ ∃ (v : Option Value) (L : List Loc) (k n : Nat), o = .returned v ∧ FrameEnd s o t L k n ∧ (∀ q ∈ L, A q.base) ∧ va_F A s t ∧ Qp v k n t.heap
/-- what holds in a method's body, from its entry on -/
def jq_X (D : va_G) (Y : Nat → ClassId) (aR : Nat → Nat) (A : Nat → Prop) (p : Program) (s : State) (m : MethodId) (args : Array Value) (meth : Method) (c : Code) (cc : ByteArray) (own nm : String) (mx : Nat) (rt : Option FieldType) : Prop :=
  p.tables.exec = Jvm.exec ∧ c.code = cc ∧ c.maxLocals = mx ∧ s.vm.findClass own = some m.cls ∧ (∀ w ∈ lw_all, w.before args s = true) ∧ jq_K D Y aR A s ∧ meth.sig.returnType = rt ∧ meth.locks = false ∧ meth.name = nm
theorem jq_enter {l : Launch} {D : va_G} {Y : Nat → ClassId} {aR : Nat → Nat} {A : Nat → Prop} {y : MethodName} {cc : ByteArray} {mx : Nat} {rt : Option FieldType} {fr lo rc rs : Nat} {av : List Value} {B : Heap → Prop} {Qp : Option Value → Nat → Nat → Heap → Prop}
    (hy : plainName y.cls = true) (hfit : (lg_sl av).length ≤ mx)
    (body : ∀ (p : Program) (e : Env) (s : State) (m : MethodId) (args : Array Value) (below : List Frame) (meth : Method) (c : Code) (ls : Array Slot), jq_X D Y aR A p s m args meth c cc y.cls y.name mx rt → B s.heap → lv_has ls mx (lv_args 0 av) →
      W p l e { frames := fr, cells := rc, slots := rs, locals := lo } s m args below meth c s.heap [] 0 0 (jq_Z below A Qp s) (F0 m 0 ls [])) :
    jq_C l D Y aR A y cc mx rt fr lo rc rs av B Qp := by
  unfold jq_C jq_Met
  refine MetFree.of_bodyS (code := cc) (maxLocals := mx) (ret := rt) hy ?_ ?_
  · intro args s m h hn
    obtain ⟨meth, c, h1, h2, h3, h4, h5, h6, -, -⟩ := Cond.code_spec hn (atoms_spec (ws := Cond.code y cc mx rt :: lw_all) h _ List.mem_cons_self)
    exact ⟨meth, c, h1, h2, h3, h4, h5, h6⟩
  · intro p e s m args below meth c s₁ B0 hml hP _
    obtain ⟨rfl, hK, hB⟩ := hP
    have hts := atoms_spec (ws := Cond.code y cc mx rt :: lw_all) B0.pre
    have hl := lv_entry av hfit
    have hh0 : s₁.heap = s.heap := by rw [B0.state]; rfl
    have k := body p e s m av.toArray below meth c _ ⟨B0.exec, B0.bytes, hml, findClass_of_methodNamed B0.named, fun w hw => hts w (List.mem_cons_of_mem _ hw), hK, B0.returns, B0.notSynchronized, (name_of_methodNamed B0.named B0.method).1⟩ hB hl
    rw [← lg_entry_eq] at k
    obtain ⟨t, a1, o, b1, b2, b3⟩ := k s₁ hh0 (Stand.of_body B0)
    exact ⟨t, o, a1, b1, b2, b3⟩
section JQ
variable {p : Program} {l : Launch} {e : Env} {R : Room} {s : State} {m : MethodId} {args : Array Value} {below : List Frame} {meth : Method} {c : Code} {H : Heap} {locs : List Loc} {cells slots : Nat} {Q : State → Prop}
variable {D : va_G} {Y : Nat → ClassId} {aR : Nat → Nat} {A : Nat → Prop} {cc : ByteArray} {own nm : String} {mx : Nat} {rt : Option FieldType} {pc : Nat} {ls : Array Slot} {Qp : Option Value → Nat → Nat → Heap → Prop}
theorem jq_mono {Q' : State → Prop} {g : JFrame} (h : ∀ t, Q t → Q' t) (k : W p l e R s m args below meth c H locs cells slots Q g) : W p l e R s m args below meth c H locs cells slots Q' g := by
  intro T hT X
  obtain ⟨t, a, b⟩ := k T hT X
  exact ⟨t, a, h t b⟩
theorem jq_end {v : Option Value} {H : Heap} (hS : va_S A s.heap H locs) (hq : Qp v cells slots H) (t : State) (h : MQ below (fun _ _ o t => o = .returned v ∧ t.heap = H) args s cells slots A t) : jq_Z below A Qp s t := by
  obtain ⟨o, h1, h2, ⟨rfl, ht⟩, L, hF, hL⟩ := h
  exact ⟨_, h1, h2, v, L, _, _, rfl, hF, hL, hS.F ht, by rw [ht]; exact hq⟩
theorem jq_iret {v : Int32} (hX : jq_X D Y aR A p s m args meth c cc own nm mx (some .int)) (hS : va_S A s.heap H locs) (hdg : decode cc pc = .ok (.ireturn, 1)) (hq : Qp (some (.int v)) cells slots H) :
    W p l e R s m args below meth c H locs cells slots (jq_Z below A Qp s) (F0 m pc ls [.int v]) :=
  jq_mono (jq_end hS hq) (W.iret hX.1 hX.2.1 hX.2.2.2.2.2.2.1 (fun t ht _ => ⟨rfl, ht⟩) hS.2.2 hdg hX.2.2.2.2.2.2.2.1)
theorem jq_zret {v : Int32} (hX : jq_X D Y aR A p s m args meth c cc own nm mx (some .boolean)) (hS : va_S A s.heap H locs) (hn : narrow .boolean (.int v) = .int v) (hdg : decode cc pc = .ok (.ireturn, 1)) (hq : Qp (some (.int v)) cells slots H) :
    W p l e R s m args below meth c H locs cells slots (jq_Z below A Qp s) (F0 m pc ls [.int v]) :=
  jq_mono (jq_end hS hq) (W.zret hX.1 hX.2.1 hX.2.2.2.2.2.2.1 hn (fun t ht _ => ⟨rfl, ht⟩) hS.2.2 hdg hX.2.2.2.2.2.2.2.1)
theorem jq_lret {v : Int64} (hX : jq_X D Y aR A p s m args meth c cc own nm mx (some .long)) (hS : va_S A s.heap H locs) (hdg : decode cc pc = .ok (.lreturn, 1)) (hq : Qp (some (.long v)) cells slots H) :
    W p l e R s m args below meth c H locs cells slots (jq_Z below A Qp s) (F0 m pc ls [.long v]) :=
  jq_mono (jq_end hS hq) (W.lret hX.1 hX.2.1 hX.2.2.2.2.2.2.1 (fun t ht _ => ⟨rfl, ht⟩) hS.2.2 hdg hX.2.2.2.2.2.2.2.1)
theorem jq_fret {v : UInt32} (hX : jq_X D Y aR A p s m args meth c cc own nm mx (some .float)) (hS : va_S A s.heap H locs) (hdg : decode cc pc = .ok (.freturn, 1)) (hq : Qp (some (.float v)) cells slots H) :
    W p l e R s m args below meth c H locs cells slots (jq_Z below A Qp s) (F0 m pc ls [.float v]) :=
  jq_mono (jq_end hS hq) (W.fret hX.1 hX.2.1 hX.2.2.2.2.2.2.1 (fun t ht _ => ⟨rfl, ht⟩) hS.2.2 hdg hX.2.2.2.2.2.2.2.1)
theorem jq_dret {v : UInt64} (hX : jq_X D Y aR A p s m args meth c cc own nm mx (some .double)) (hS : va_S A s.heap H locs) (hdg : decode cc pc = .ok (.dreturn, 1)) (hq : Qp (some (.double v)) cells slots H) :
    W p l e R s m args below meth c H locs cells slots (jq_Z below A Qp s) (F0 m pc ls [.double v]) :=
  jq_mono (jq_end hS hq) (W.dret hX.1 hX.2.1 hX.2.2.2.2.2.2.1 (fun t ht _ => ⟨rfl, ht⟩) hS.2.2 hdg hX.2.2.2.2.2.2.2.1)
theorem jq_vret (hX : jq_X D Y aR A p s m args meth c cc own nm mx none) (hS : va_S A s.heap H locs) (hdg : decode cc pc = .ok (.return_, 1)) (hq : Qp none cells slots H) :
    W p l e R s m args below meth c H locs cells slots (jq_Z below A Qp s) (F0 m pc ls []) :=
  jq_mono (jq_end hS hq) (W.vret hX.1 hX.2.1 hX.2.2.2.2.2.2.1 (fun t ht _ => ⟨rfl, ht⟩) hS.2.2 hdg hX.2.2.2.2.2.2.2.1)
theorem jq_aret {C : String} {r : Option Nat} (hX : jq_X D Y aR A p s m args meth c cc own nm mx (some (.object C))) (hS : va_S A s.heap H locs) (hdg : decode cc pc = .ok (.areturn, 1)) (hq : Qp (some (va_rf r)) cells slots H) :
    W p l e R s m args below meth c H locs cells slots (jq_Z below A Qp s) (F0 m pc ls [va_rf r]) :=
  jq_mono (jq_end hS hq) (W.aret hX.1 hX.2.1 hX.2.2.2.2.2.2.1 (Or.inl ⟨_, rfl⟩) (va_rf_or r) (fun t ht _ => ⟨rfl, ht⟩) hS.2.2 hdg hX.2.2.2.2.2.2.2.1)
end JQ
/-! calls -/
theorem jq_blind (D : va_G) (Y : Nat → ClassId) (aR : Nat → Nat) (A : Nat → Prop) (av : List Value) (B : Heap → Prop) : FrameBlind (jq_Pc D Y aR A av B) := by
  intro a U g mk h
  obtain ⟨h0, ⟨h1, h2, h3, h4, h5, h6⟩, h7⟩ := h
  exact ⟨h0, ⟨va_K.moved (u := U) (U := U.calling g mk a) (Vm.Alike.refl U.vm) h1, fun w hw => va_Nw.same (by
    have h8 : lw_isNest w = true := (List.mem_filter.mp hw).2
    cases w <;> first | rfl | (exact absurd h8 (by simp [lw_isNest]))) (u := U) rfl (h2 w hw), va_AO.moved (u := U) (Vm.Alike.refl U.vm) h3, va_AO.moved (u := U) (Vm.Alike.refl U.vm) h4, h5, jq_R.moved (u := U) (Vm.Alike.refl U.vm) h6⟩, h7⟩
def jq_Post (A : Nat → Prop) (Qp : Option Value → Nat → Nat → Heap → Prop) : Pt → Array Value → Option Value → Pt → Prop := fun P a v B =>
  ∃ (g : JFrame) (mk : MethodId) (t : State) (L : List Loc) (k n : Nat), B.U.heap = t.heap ∧ B.U.vm = t.vm ∧ va_F A (P.U.calling g mk a) t ∧ Qp v k n t.heap ∧ B.locs = P.locs ++ L ∧ (∀ q ∈ L, A q.base) ∧ B.cells = P.cells + k ∧ B.slots = P.slots + n
def jq_Pre (R : Room) (rc rs : Nat) (Pc : Array Value → State → Prop) : Pt → Array Value → Prop := fun P a => P.cells + rc ≤ R.cells ∧ P.slots + rs ≤ R.slots ∧ Pc a P.U
theorem jq_back {R : Room} {p : Program} {l : Launch} {e : Env} {below : List Frame} {s : State} {sargs : Array Value} {y : MethodName} {cc : ByteArray} {mx : Nat} {rt : Option FieldType} {fr lo rc rs : Nat} {Pc : Array Value → State → Prop} {A : Nat → Prop} {Qp : Option Value → Nat → Nat → Heap → Prop}
    (hM : jq_Met l y cc mx rt fr lo rc rs Pc A Qp) (hblind : FrameBlind Pc) (hf : fr + 1 ≤ R.frames) (hlo : 8 + (mx + 11) + lo ≤ R.locals)
    (hts : ∀ w ∈ lw_all, w.before sargs s = true) (hcode : Cond.code y cc mx rt ∈ lw_all) (hini : Cond.initialized y.cls ∈ lw_all) :
    Back l R p e below s sargs y 3 8 (jq_Pre R rc rs Pc) (jq_Post A Qp) := by
  have hwd : ∀ w ∈ lw_all, ∀ (a' : Array Value) (U : State), s.WarmedH U.vm → w.before a' U = true := fun w hw a' U hW => word_at hW (lw_all_good hw) (hts w hw)
  refine Back.of_free (S := headSpec (Cond.code y cc mx rt :: lw_all) { frames := fr, cells := rc, slots := rs, locals := lo }) (P := Pc) (K := fun _ _ _ _ _ => True) (Q := fun _ st o t => ∃ (v : Option Value) (L : List Loc) (k n : Nat), o = .returned v ∧ FrameEnd st o t L k n ∧ (∀ q ∈ L, A q.base) ∧ va_F A st t ∧ Qp v k n t.heap) (bytes := cc) (maxL := mx) (ret := rt)
    (E := fun _ st o t L k n => (∀ q ∈ L, A q.base) ∧ va_F A st t ∧ ∃ v, o = .returned v ∧ Qp v k n t.heap) hM hf hlo ?_ ?_ (fun _ _ _ _ _ _ _ _ _ => trivial) ?_ ?_
  · intro m meth c P a X hp
    refine ⟨atoms_intro fun w hw => ?_, hwd _ hcode _ _ X.warmed, hwd _ hini _ _ X.warmed, hp.1, hp.2.1⟩
    rcases List.mem_cons.mp hw with rfl | hw
    · exact hwd _ hcode _ _ X.warmed
    · exact hwd _ hw _ _ X.warmed
  · intro m meth c P a g mk X hp
    exact hblind _ _ _ _ hp.2.2
  · intro a st o t ⟨v, L, k, n, h1, h2, h3, h4, h5⟩
    exact ⟨L, k, n, h2, h3, h4, v, h1, h5⟩
  · intro m meth c P a g mk v t L k n X hp _ hF ⟨h3, h4, v', h1, h5⟩
    cases h1
    exact ⟨g, mk, t, L, k, n, rfl, rfl, h4, h5, rfl, h3, rfl, rfl⟩
/-- a call of y from here, whatever its contract says -/
def jq_Ok (p : Program) (l : Launch) (e : Env) (R : Room) (s : State) (m : MethodId) (args : Array Value) (below : List Frame) (meth : Method) (c : Code) (H : Heap) (y : MethodName) (cy : ByteArray) (my : Nat) (ry : Option FieldType) (av : List Value) (pc : Nat) (ls : Array Slot) (st rest : List Value) : Prop :=
  ∀ (locs : List Loc) (cells slots : Nat) (Q : State → Prop) (A A' : Nat → Prop) (D : va_G) (Y : Nat → ClassId) (aR : Nat → Nat) (fr lo rc rs : Nat) (B : Heap → Prop) (Qp : Option Value → Nat → Nat → Heap → Prop),
    jq_C l D Y aR A' y cy my ry fr lo rc rs av B Qp → (∀ U : State, U.heap = H → s.WarmedH U.vm → jq_K D Y aR A' U) → B H → va_S A s.heap H locs → (∀ q, A' q → A q) →
    fr + 1 ≤ R.frames → 8 + (my + 11) + lo ≤ R.locals → cells + rc ≤ R.cells → slots + rs ≤ R.slots →
    (∀ (v : Option Value) (k n : Nat) (H1 : Heap) (locs1 : List Loc), Qp v k n H1 → va_S A s.heap H1 locs1 → H.size ≤ H1.size → (∀ q : Nat, q < H.size → ¬ A' q → H1[q]? = H[q]?) → W p l e R s m args below meth c H1 locs1 (cells + k) (slots + n) Q (F0 m (pc + 3) ls (v.toList ++ rest))) →
    W p l e R s m args below meth c H locs cells slots Q (F0 m pc ls st)
theorem jq_glue {p : Program} {l : Launch} {e : Env} {R : Room} {s : State} {m : MethodId} {args : Array Value} {below : List Frame} {meth : Method} {c : Code} {H : Heap} {locs : List Loc} {cells slots : Nat} {Q : State → Prop} {A A' : Nat → Prop} {pc : Nat} {ls : Array Slot} {st rest : List Value} {a : Array Value} {Qp : Option Value → Nat → Nat → Heap → Prop}
    (hS : va_S A s.heap H locs) (hAA : ∀ q, A' q → A q)
    (hc : ∀ T : State, T.heap = H → Stand p l e R s m args below meth c T locs cells slots → ∃ (v : Option Value) (vm₁ : Vm) (B : Pt), s.WarmedH vm₁ ∧ Stand p l e R s m args below meth c B.U B.locs B.cells B.slots ∧ jq_Post A' Qp ⟨T.setVm vm₁, locs, cells, slots⟩ a v B ∧
      ∀ target, Steps p.tables e below (B.U.setTop { F0 m pc ls st with pc := (F0 m pc ls st).pc + 3, stack := v.toList ++ rest }) target → Steps p.tables e below (T.setTop (F0 m pc ls st)) target)
    (kk : ∀ (v : Option Value) (k n : Nat) (H1 : Heap) (locs1 : List Loc), Qp v k n H1 → va_S A s.heap H1 locs1 → H.size ≤ H1.size → (∀ q : Nat, q < H.size → ¬ A' q → H1[q]? = H[q]?) → W p l e R s m args below meth c H1 locs1 (cells + k) (slots + n) Q (F0 m (pc + 3) ls (v.toList ++ rest))) :
    W p l e R s m args below meth c H locs cells slots Q (F0 m pc ls st) := by
  intro T hT X
  obtain ⟨v, vm₁, ⟨U', l2, c2, s2⟩, hW₁, X', ⟨g', mk, t, L, k, n, e1, e2, hF, hq, h1, hL, h2, h3⟩, hst⟩ := hc T hT X
  dsimp only [Pt.U, Pt.locs, Pt.cells, Pt.slots] at X' e1 e2 h1 h2 h3 hst hF
  subst h1; subst h2; subst h3
  have hF1 : H.size ≤ t.heap.size := by rw [← hT]; exact hF.1
  have hF2 : ∀ q : Nat, q < H.size → ¬ A' q → t.heap[q]? = H[q]? := fun q hq hA => by
    have h := hF.2 q (by show q < T.heap.size; rw [hT]; exact hq) hA
    rw [h]; show T.heap[q]? = _; rw [hT]
  obtain ⟨t2, a1, b1⟩ := kk v k n t.heap (locs ++ L) hq ⟨Nat.le_trans hS.1 hF1, fun q h1 h2 => (hF2 q (Nat.lt_of_lt_of_le h1 hS.1) (fun z => h2 (hAA q z))).trans (hS.2.1 q h1 h2), fun q hq => (List.mem_append.mp hq).elim (hS.2.2 q) (fun h => hAA _ (hL q h))⟩ hF1 hF2 U' e1 X'
  exact ⟨t2, hst _ a1, b1⟩
section JQC
variable {p : Program} {l : Launch} {e : Env} {R : Room} {s : State} {m : MethodId} {args : Array Value} {below : List Frame} {meth : Method} {c : Code} {H : Heap}
variable {cc : ByteArray} {own : String} {pc index mx : Nat} {ls : Array Slot} {rest : List Value} {y : MethodName} {cy : ByteArray} {my : Nat} {ry : Option FieldType} {st : List Value}
theorem jq_okV {b : Nat} {As : List Value} (hx : p.tables.exec = Jvm.exec) (hb : c.code = cc) (hml : c.maxLocals = mx) (hown : s.vm.findClass own = some m.cls) (hts : ∀ w ∈ lw_all, w.before args s = true)
    (hrec : ∃ cellB : Cell, H[b]? = some cellB ∧ cellB.vm.isStatics = false ∧ s.vm.findClass y.cls = some cellB.cls)
    (hl : Cond.methodLink own index y ∈ lw_all) (hin : Cond.instanceMethod y ∈ lw_all) (hse : Cond.selects y.cls y y ∈ lw_all) (hco : Cond.code y cy my ry ∈ lw_all) (hini : Cond.initialized y.cls ∈ lw_all)
    (hy : y.cls ≠ "java/lang/invoke/MethodHandle" ∧ y.cls ≠ "java/lang/invoke/VarHandle" ∧ (parseMethodDescriptor y.desc).map (fun d => d.parameters.length) = some As.length)
    (hst : st = As.reverse ++ .ref b :: rest) (hls : ls.size = mx) (hr : (rest.map fun v => v.category).sum ≤ 8) (hdg : decode cc pc = .ok (.invokevirtual index, 3)) :
    jq_Ok p l e R s m args below meth c H y cy my ry (.ref b :: As) pc ls st rest := by
  intro locs cells slots Q A A' D Y aR fr lo rc rs B Qp hM hK hB hS hAA hfr hlo hcl hsl kk
  obtain ⟨cellB, g1, g2, g3⟩ := hrec
  refine jq_glue (a := (Value.ref b :: As).toArray) hS hAA (fun T hT X => ?_) kk
  exact callV X hx (C := y.cls) (bytes := cy) (maxL := my) (ret := ry) hown (hts _ hl) (hts _ hin) (hts _ hse) (hts _ hco) ⟨hy.1, hy.2.1⟩ (jq_back hM (jq_blind D Y aR A' _ B) hfr hlo hts hco hini) (by rw [hT]; exact g1) g2 g3 (g := F0 m pc ls st) rfl (hls.trans hml.symm) (argsL := As) (rest := rest)
    (fun sig h => by have h2 := hy.2.2; rw [h] at h2; exact (Option.some.inj h2).symm) hst (lv_room hr) (by rw [hb]; exact hdg) (fun vm₁ hW₁ => ⟨hcl, hsl, rfl, hK (T.setVm vm₁) hT hW₁, by show B T.heap; rw [hT]; exact hB⟩)
theorem jq_okVN {b : Nat} {As : List Value} {host : String} (hx : p.tables.exec = Jvm.exec) (hb : c.code = cc) (hml : c.maxLocals = mx) (hown : s.vm.findClass own = some m.cls) (hts : ∀ w ∈ lw_all, w.before args s = true)
    (hnst : ∀ w ∈ lw_nest, va_Nw w s) (hrec : ∃ cellB : Cell, H[b]? = some cellB ∧ cellB.vm.isStatics = false ∧ s.vm.findClass y.cls = some cellB.cls)
    (hl : Cond.methodLinkNest own index y host ∈ lw_nest) (hin : Cond.instanceMethod y ∈ lw_all) (hse : Cond.selects y.cls y y ∈ lw_all) (hco : Cond.code y cy my ry ∈ lw_all) (hini : Cond.initialized y.cls ∈ lw_all)
    (hy : y.cls ≠ "java/lang/invoke/MethodHandle" ∧ y.cls ≠ "java/lang/invoke/VarHandle" ∧ (parseMethodDescriptor y.desc).map (fun d => d.parameters.length) = some As.length)
    (hst : st = As.reverse ++ .ref b :: rest) (hls : ls.size = mx) (hr : (rest.map fun v => v.category).sum ≤ 8) (hdg : decode cc pc = .ok (.invokevirtual index, 3)) :
    jq_Ok p l e R s m args below meth c H y cy my ry (.ref b :: As) pc ls st rest := by
  intro locs cells slots Q A A' D Y aR fr lo rc rs B Qp hM hK hB hS hAA hfr hlo hcl hsl kk
  obtain ⟨cellB, g1, g2, g3⟩ := hrec
  refine jq_glue (a := (Value.ref b :: As).toArray) hS hAA (fun T hT X => ?_) kk
  exact va_callVN X hx (C := y.cls) (bytes := cy) (maxL := my) (ret := ry) hown (va_Nw.use rfl (hnst _ hl)) (hts _ hin) (hts _ hse) (hts _ hco) ⟨hy.1, hy.2.1⟩ (jq_back hM (jq_blind D Y aR A' _ B) hfr hlo hts hco hini) (by rw [hT]; exact g1) g2 g3 (g := F0 m pc ls st) rfl (hls.trans hml.symm) (argsL := As) (rest := rest)
    (fun sig h => by have h2 := hy.2.2; rw [h] at h2; exact (Option.some.inj h2).symm) hst (lv_room hr) (by rw [hb]; exact hdg) (fun vm₁ hW₁ => ⟨hcl, hsl, rfl, hK (T.setVm vm₁) hT hW₁, by show B T.heap; rw [hT]; exact hB⟩)
theorem jq_okS {As : List Value} (hx : p.tables.exec = Jvm.exec) (hb : c.code = cc) (hml : c.maxLocals = mx) (hown : s.vm.findClass own = some m.cls) (hts : ∀ w ∈ lw_all, w.before args s = true)
    (hl : Cond.methodLink own index y ∈ lw_all) (hsta : Cond.static y ∈ lw_all) (hco : Cond.code y cy my ry ∈ lw_all) (hini : Cond.initialized y.cls ∈ lw_all)
    (hy : y.cls ≠ "java/lang/invoke/MethodHandle" ∧ y.cls ≠ "java/lang/invoke/VarHandle" ∧ (parseMethodDescriptor y.desc).map (fun d => d.parameters.length) = some As.length)
    (hst : st = As.reverse ++ rest) (hls : ls.size = mx) (hr : (rest.map fun v => v.category).sum ≤ 8) (hdg : decode cc pc = .ok (.invokestatic index, 3)) :
    jq_Ok p l e R s m args below meth c H y cy my ry As pc ls st rest := by
  intro locs cells slots Q A A' D Y aR fr lo rc rs B Qp hM hK hB hS hAA hfr hlo hcl hsl kk
  refine jq_glue (a := As.toArray) hS hAA (fun T hT X => ?_) kk
  exact callS X hx (bytes := cy) (maxL := my) (ret := ry) hown (hts _ hl) (hts _ hsta) (hts _ hini) (hts _ hco) ⟨hy.1, hy.2.1⟩ (jq_back hM (jq_blind D Y aR A' _ B) hfr hlo hts hco hini) (g := F0 m pc ls st) rfl (hls.trans hml.symm) (argsL := As) (rest := rest)
    (fun sig h => by have h2 := hy.2.2; rw [h] at h2; exact (Option.some.inj h2).symm) hst (lv_room hr) (by rw [hb]; exact hdg) (fun vm₁ hW₁ => ⟨hcl, hsl, rfl, hK (T.setVm vm₁) hT hW₁, by show B T.heap; rw [hT]; exact hB⟩)
theorem jq_okSN {As : List Value} {host : String} (hx : p.tables.exec = Jvm.exec) (hb : c.code = cc) (hml : c.maxLocals = mx) (hown : s.vm.findClass own = some m.cls) (hts : ∀ w ∈ lw_all, w.before args s = true)
    (hnst : ∀ w ∈ lw_nest, va_Nw w s) (hl : Cond.methodLinkNest own index y host ∈ lw_nest) (hsta : Cond.static y ∈ lw_all) (hco : Cond.code y cy my ry ∈ lw_all) (hini : Cond.initialized y.cls ∈ lw_all)
    (hy : y.cls ≠ "java/lang/invoke/MethodHandle" ∧ y.cls ≠ "java/lang/invoke/VarHandle" ∧ (parseMethodDescriptor y.desc).map (fun d => d.parameters.length) = some As.length)
    (hst : st = As.reverse ++ rest) (hls : ls.size = mx) (hr : (rest.map fun v => v.category).sum ≤ 8) (hdg : decode cc pc = .ok (.invokestatic index, 3)) :
    jq_Ok p l e R s m args below meth c H y cy my ry As pc ls st rest := by
  intro locs cells slots Q A A' D Y aR fr lo rc rs B Qp hM hK hB hS hAA hfr hlo hcl hsl kk
  refine jq_glue (a := As.toArray) hS hAA (fun T hT X => ?_) kk
  exact va_callSN X hx (bytes := cy) (maxL := my) (ret := ry) hown (va_Nw.use rfl (hnst _ hl)) (hts _ hsta) (hts _ hini) (hts _ hco) ⟨hy.1, hy.2.1⟩ (jq_back hM (jq_blind D Y aR A' _ B) hfr hlo hts hco hini) (g := F0 m pc ls st) rfl (hls.trans hml.symm) (argsL := As) (rest := rest)
    (fun sig h => by have h2 := hy.2.2; rw [h] at h2; exact (Option.some.inj h2).symm) hst (lv_room hr) (by rw [hb]; exact hdg) (fun vm₁ hW₁ => ⟨hcl, hsl, rfl, hK (T.setVm vm₁) hT hW₁, by show B T.heap; rw [hT]; exact hB⟩)
theorem jq_okI {b : Nat} {As : List Value} (hx : p.tables.exec = Jvm.exec) (hb : c.code = cc) (hml : c.maxLocals = mx) (hown : s.vm.findClass own = some m.cls) (hts : ∀ w ∈ lw_all, w.before args s = true)
    (hl : Cond.methodLink own index y ∈ lw_all) (hin : Cond.instanceMethod y ∈ lw_all) (hco : Cond.code y cy my none ∈ lw_all) (hini : Cond.initialized y.cls ∈ lw_all) (hnm : y.name = "<init>")
    (hy : y.cls ≠ "java/lang/invoke/MethodHandle" ∧ y.cls ≠ "java/lang/invoke/VarHandle" ∧ (parseMethodDescriptor y.desc).map (fun d => d.parameters.length) = some As.length)
    (hst : st = As.reverse ++ .ref b :: rest) (hls : ls.size = mx) (hr : (rest.map fun v => v.category).sum ≤ 8) (hdg : decode cc pc = .ok (.invokespecial index, 3)) :
    jq_Ok p l e R s m args below meth c H y cy my none (.ref b :: As) pc ls st rest := by
  intro locs cells slots Q A A' D Y aR fr lo rc rs B Qp hM hK hB hS hAA hfr hlo hcl hsl kk
  refine jq_glue (a := (Value.ref b :: As).toArray) hS hAA (fun T hT X => ?_) kk
  exact callI X hx (bytes := cy) (maxL := my) hown hnm (hts _ hl) (hts _ hin) (hts _ hco) ⟨hy.1, hy.2.1⟩ (jq_back hM (jq_blind D Y aR A' _ B) hfr hlo hts hco hini) (g := F0 m pc ls st) rfl (hls.trans hml.symm) (a := b) (argsL := As) (rest := rest)
    (fun sig h => by have h2 := hy.2.2; rw [h] at h2; exact (Option.some.inj h2).symm) hst (lv_room hr) (by rw [hb]; exact hdg) (fun vm₁ hW₁ => ⟨hcl, hsl, rfl, hK (T.setVm vm₁) hT hW₁, by show B T.heap; rw [hT]; exact hB⟩)
theorem jq_okIN {b : Nat} {As : List Value} {host : String} (hx : p.tables.exec = Jvm.exec) (hb : c.code = cc) (hml : c.maxLocals = mx) (hown : s.vm.findClass own = some m.cls) (hts : ∀ w ∈ lw_all, w.before args s = true)
    (hnst : ∀ w ∈ lw_nest, va_Nw w s) (hl : Cond.methodLinkNest own index y host ∈ lw_nest) (hin : Cond.instanceMethod y ∈ lw_all) (hco : Cond.code y cy my none ∈ lw_all) (hini : Cond.initialized y.cls ∈ lw_all) (hnm : y.name = "<init>")
    (hy : y.cls ≠ "java/lang/invoke/MethodHandle" ∧ y.cls ≠ "java/lang/invoke/VarHandle" ∧ (parseMethodDescriptor y.desc).map (fun d => d.parameters.length) = some As.length)
    (hst : st = As.reverse ++ .ref b :: rest) (hls : ls.size = mx) (hr : (rest.map fun v => v.category).sum ≤ 8) (hdg : decode cc pc = .ok (.invokespecial index, 3)) :
    jq_Ok p l e R s m args below meth c H y cy my none (.ref b :: As) pc ls st rest := by
  intro locs cells slots Q A A' D Y aR fr lo rc rs B Qp hM hK hB hS hAA hfr hlo hcl hsl kk
  refine jq_glue (a := (Value.ref b :: As).toArray) hS hAA (fun T hT X => ?_) kk
  exact va_callIN X hx (bytes := cy) (maxL := my) hown hnm (va_Nw.use rfl (hnst _ hl)) (hts _ hin) (hts _ hco) ⟨hy.1, hy.2.1⟩ (jq_back hM (jq_blind D Y aR A' _ B) hfr hlo hts hco hini) (g := F0 m pc ls st) rfl (hls.trans hml.symm) (a := b) (argsL := As) (rest := rest)
    (fun sig h => by have h2 := hy.2.2; rw [h] at h2; exact (Option.some.inj h2).symm) hst (lv_room hr) (by rw [hb]; exact hdg) (fun vm₁ hW₁ => ⟨hcl, hsl, rfl, hK (T.setVm vm₁) hT hW₁, by show B T.heap; rw [hT]; exact hB⟩)
end JQC
end
section
/-! the heap by types: kinds, fields and arrays by address, the next address, the room; the parts of the class's own state -/
def wS : Type := ((Nat × Nat) × (Nat × Nat)) × (Nat → Nat) × (Nat → Nat → Int32) × (Nat → Nat → Int64) × (Nat → Nat → Option Nat) × (Nat → Nat) × (Nat → Nat → Int32) × (Nat → Nat → Int64) × (Nat → Nat → Option Nat)
def s_nx (S : wS) : Nat := S.1.1.1
def s_lm (S : wS) : Nat := S.1.1.2
def s_sl (S : wS) : Nat := S.1.2.1
def s_sm (S : wS) : Nat := S.1.2.2
def s_K (S : wS) : Nat → Nat := S.2.1
def s_I (S : wS) : Nat → Nat → Int32 := S.2.2.1
def s_L (S : wS) : Nat → Nat → Int64 := S.2.2.2.1
def s_R (S : wS) : Nat → Nat → Option Nat := S.2.2.2.2.1
def s_n (S : wS) : Nat → Nat := S.2.2.2.2.2.1
def s_aI (S : wS) : Nat → Nat → Int32 := S.2.2.2.2.2.2.1
def s_aL (S : wS) : Nat → Nat → Int64 := S.2.2.2.2.2.2.2.1
def s_aR (S : wS) : Nat → Nat → Option Nat := S.2.2.2.2.2.2.2.2
def s_pI (S : wS) (i a : Nat) (v : Int32) : wS := (S.1, S.2.1, fun j b => if j = i ∧ b = a then v else S.2.2.1 j b, S.2.2.2)
def s_pL (S : wS) (i a : Nat) (v : Int64) : wS := (S.1, S.2.1, S.2.2.1, fun j b => if j = i ∧ b = a then v else S.2.2.2.1 j b, S.2.2.2.2)
def s_pR (S : wS) (i a : Nat) (v : Option Nat) : wS := (S.1, S.2.1, S.2.2.1, S.2.2.2.1, fun j b => if j = i ∧ b = a then v else S.2.2.2.2.1 j b, S.2.2.2.2.2)
def s_wI (S : wS) (a i : Nat) (v : Int32) : wS := (S.1, S.2.1, S.2.2.1, S.2.2.2.1, S.2.2.2.2.1, S.2.2.2.2.2.1, fun b j => if b = a ∧ j = i then v else S.2.2.2.2.2.2.1 b j, S.2.2.2.2.2.2.2)
def s_wL (S : wS) (a i : Nat) (v : Int64) : wS := (S.1, S.2.1, S.2.2.1, S.2.2.2.1, S.2.2.2.2.1, S.2.2.2.2.2.1, S.2.2.2.2.2.2.1, fun b j => if b = a ∧ j = i then v else S.2.2.2.2.2.2.2.1 b j, S.2.2.2.2.2.2.2.2)
def s_wR (S : wS) (a i : Nat) (v : Option Nat) : wS := (S.1, S.2.1, S.2.2.1, S.2.2.2.1, S.2.2.2.2.1, S.2.2.2.2.2.1, S.2.2.2.2.2.2.1, S.2.2.2.2.2.2.2.1, fun b j => if b = a ∧ j = i then v else S.2.2.2.2.2.2.2.2 b j)
def s_new (S : wS) (kd N : Nat) : wS := (((S.1.1.1 + 1, S.1.1.2), (S.1.2.1 + N, S.1.2.2)), fun b => if b = S.1.1.1 then kd else S.2.1 b, fun j b => if b = S.1.1.1 then 0 else S.2.2.1 j b, fun j b => if b = S.1.1.1 then 0 else S.2.2.2.1 j b, fun j b => if b = S.1.1.1 then none else S.2.2.2.2.1 j b, S.2.2.2.2.2)
def s_newA (S : wS) (kd N : Nat) : wS := (((S.1.1.1 + 1, S.1.1.2), (S.1.2.1 + N, S.1.2.2)), fun b => if b = S.1.1.1 then kd else S.2.1 b, S.2.2.1, S.2.2.2.1, S.2.2.2.2.1, fun b => if b = S.1.1.1 then N else S.2.2.2.2.2.1 b, fun b j => if b = S.1.1.1 then 0 else S.2.2.2.2.2.2.1 b j, fun b j => if b = S.1.1.1 then 0 else S.2.2.2.2.2.2.2.1 b j, fun b j => if b = S.1.1.1 then none else S.2.2.2.2.2.2.2.2 b j)
theorem nx_pI (S : wS) (i a : Nat) (v : Int32) : s_nx (s_pI S i a v) = s_nx S := rfl
theorem lm_pI (S : wS) (i a : Nat) (v : Int32) : s_lm (s_pI S i a v) = s_lm S := rfl
theorem sl_pI (S : wS) (i a : Nat) (v : Int32) : s_sl (s_pI S i a v) = s_sl S := rfl
theorem sm_pI (S : wS) (i a : Nat) (v : Int32) : s_sm (s_pI S i a v) = s_sm S := rfl
theorem K_pI (S : wS) (i a : Nat) (v : Int32) : s_K (s_pI S i a v) = s_K S := rfl
theorem I_pI (S : wS) (i a : Nat) (v : Int32) : s_I (s_pI S i a v) = fun j b => if j = i ∧ b = a then v else s_I S j b := rfl
theorem L_pI (S : wS) (i a : Nat) (v : Int32) : s_L (s_pI S i a v) = s_L S := rfl
theorem R_pI (S : wS) (i a : Nat) (v : Int32) : s_R (s_pI S i a v) = s_R S := rfl
theorem n_pI (S : wS) (i a : Nat) (v : Int32) : s_n (s_pI S i a v) = s_n S := rfl
theorem aI_pI (S : wS) (i a : Nat) (v : Int32) : s_aI (s_pI S i a v) = s_aI S := rfl
theorem aL_pI (S : wS) (i a : Nat) (v : Int32) : s_aL (s_pI S i a v) = s_aL S := rfl
theorem aR_pI (S : wS) (i a : Nat) (v : Int32) : s_aR (s_pI S i a v) = s_aR S := rfl
theorem nx_pL (S : wS) (i a : Nat) (v : Int64) : s_nx (s_pL S i a v) = s_nx S := rfl
theorem lm_pL (S : wS) (i a : Nat) (v : Int64) : s_lm (s_pL S i a v) = s_lm S := rfl
theorem sl_pL (S : wS) (i a : Nat) (v : Int64) : s_sl (s_pL S i a v) = s_sl S := rfl
theorem sm_pL (S : wS) (i a : Nat) (v : Int64) : s_sm (s_pL S i a v) = s_sm S := rfl
theorem K_pL (S : wS) (i a : Nat) (v : Int64) : s_K (s_pL S i a v) = s_K S := rfl
theorem I_pL (S : wS) (i a : Nat) (v : Int64) : s_I (s_pL S i a v) = s_I S := rfl
theorem L_pL (S : wS) (i a : Nat) (v : Int64) : s_L (s_pL S i a v) = fun j b => if j = i ∧ b = a then v else s_L S j b := rfl
theorem R_pL (S : wS) (i a : Nat) (v : Int64) : s_R (s_pL S i a v) = s_R S := rfl
theorem n_pL (S : wS) (i a : Nat) (v : Int64) : s_n (s_pL S i a v) = s_n S := rfl
theorem aI_pL (S : wS) (i a : Nat) (v : Int64) : s_aI (s_pL S i a v) = s_aI S := rfl
theorem aL_pL (S : wS) (i a : Nat) (v : Int64) : s_aL (s_pL S i a v) = s_aL S := rfl
theorem aR_pL (S : wS) (i a : Nat) (v : Int64) : s_aR (s_pL S i a v) = s_aR S := rfl
theorem nx_pR (S : wS) (i a : Nat) (v : Option Nat) : s_nx (s_pR S i a v) = s_nx S := rfl
theorem lm_pR (S : wS) (i a : Nat) (v : Option Nat) : s_lm (s_pR S i a v) = s_lm S := rfl
theorem sl_pR (S : wS) (i a : Nat) (v : Option Nat) : s_sl (s_pR S i a v) = s_sl S := rfl
theorem sm_pR (S : wS) (i a : Nat) (v : Option Nat) : s_sm (s_pR S i a v) = s_sm S := rfl
theorem K_pR (S : wS) (i a : Nat) (v : Option Nat) : s_K (s_pR S i a v) = s_K S := rfl
theorem I_pR (S : wS) (i a : Nat) (v : Option Nat) : s_I (s_pR S i a v) = s_I S := rfl
theorem L_pR (S : wS) (i a : Nat) (v : Option Nat) : s_L (s_pR S i a v) = s_L S := rfl
theorem R_pR (S : wS) (i a : Nat) (v : Option Nat) : s_R (s_pR S i a v) = fun j b => if j = i ∧ b = a then v else s_R S j b := rfl
theorem n_pR (S : wS) (i a : Nat) (v : Option Nat) : s_n (s_pR S i a v) = s_n S := rfl
theorem aI_pR (S : wS) (i a : Nat) (v : Option Nat) : s_aI (s_pR S i a v) = s_aI S := rfl
theorem aL_pR (S : wS) (i a : Nat) (v : Option Nat) : s_aL (s_pR S i a v) = s_aL S := rfl
theorem aR_pR (S : wS) (i a : Nat) (v : Option Nat) : s_aR (s_pR S i a v) = s_aR S := rfl
theorem nx_wI (S : wS) (a i : Nat) (v : Int32) : s_nx (s_wI S a i v) = s_nx S := rfl
theorem lm_wI (S : wS) (a i : Nat) (v : Int32) : s_lm (s_wI S a i v) = s_lm S := rfl
theorem sl_wI (S : wS) (a i : Nat) (v : Int32) : s_sl (s_wI S a i v) = s_sl S := rfl
theorem sm_wI (S : wS) (a i : Nat) (v : Int32) : s_sm (s_wI S a i v) = s_sm S := rfl
theorem K_wI (S : wS) (a i : Nat) (v : Int32) : s_K (s_wI S a i v) = s_K S := rfl
theorem I_wI (S : wS) (a i : Nat) (v : Int32) : s_I (s_wI S a i v) = s_I S := rfl
theorem L_wI (S : wS) (a i : Nat) (v : Int32) : s_L (s_wI S a i v) = s_L S := rfl
theorem R_wI (S : wS) (a i : Nat) (v : Int32) : s_R (s_wI S a i v) = s_R S := rfl
theorem n_wI (S : wS) (a i : Nat) (v : Int32) : s_n (s_wI S a i v) = s_n S := rfl
theorem aI_wI (S : wS) (a i : Nat) (v : Int32) : s_aI (s_wI S a i v) = fun b j => if b = a ∧ j = i then v else s_aI S b j := rfl
theorem aL_wI (S : wS) (a i : Nat) (v : Int32) : s_aL (s_wI S a i v) = s_aL S := rfl
theorem aR_wI (S : wS) (a i : Nat) (v : Int32) : s_aR (s_wI S a i v) = s_aR S := rfl
theorem nx_wL (S : wS) (a i : Nat) (v : Int64) : s_nx (s_wL S a i v) = s_nx S := rfl
theorem lm_wL (S : wS) (a i : Nat) (v : Int64) : s_lm (s_wL S a i v) = s_lm S := rfl
theorem sl_wL (S : wS) (a i : Nat) (v : Int64) : s_sl (s_wL S a i v) = s_sl S := rfl
theorem sm_wL (S : wS) (a i : Nat) (v : Int64) : s_sm (s_wL S a i v) = s_sm S := rfl
theorem K_wL (S : wS) (a i : Nat) (v : Int64) : s_K (s_wL S a i v) = s_K S := rfl
theorem I_wL (S : wS) (a i : Nat) (v : Int64) : s_I (s_wL S a i v) = s_I S := rfl
theorem L_wL (S : wS) (a i : Nat) (v : Int64) : s_L (s_wL S a i v) = s_L S := rfl
theorem R_wL (S : wS) (a i : Nat) (v : Int64) : s_R (s_wL S a i v) = s_R S := rfl
theorem n_wL (S : wS) (a i : Nat) (v : Int64) : s_n (s_wL S a i v) = s_n S := rfl
theorem aI_wL (S : wS) (a i : Nat) (v : Int64) : s_aI (s_wL S a i v) = s_aI S := rfl
theorem aL_wL (S : wS) (a i : Nat) (v : Int64) : s_aL (s_wL S a i v) = fun b j => if b = a ∧ j = i then v else s_aL S b j := rfl
theorem aR_wL (S : wS) (a i : Nat) (v : Int64) : s_aR (s_wL S a i v) = s_aR S := rfl
theorem nx_wR (S : wS) (a i : Nat) (v : Option Nat) : s_nx (s_wR S a i v) = s_nx S := rfl
theorem lm_wR (S : wS) (a i : Nat) (v : Option Nat) : s_lm (s_wR S a i v) = s_lm S := rfl
theorem sl_wR (S : wS) (a i : Nat) (v : Option Nat) : s_sl (s_wR S a i v) = s_sl S := rfl
theorem sm_wR (S : wS) (a i : Nat) (v : Option Nat) : s_sm (s_wR S a i v) = s_sm S := rfl
theorem K_wR (S : wS) (a i : Nat) (v : Option Nat) : s_K (s_wR S a i v) = s_K S := rfl
theorem I_wR (S : wS) (a i : Nat) (v : Option Nat) : s_I (s_wR S a i v) = s_I S := rfl
theorem L_wR (S : wS) (a i : Nat) (v : Option Nat) : s_L (s_wR S a i v) = s_L S := rfl
theorem R_wR (S : wS) (a i : Nat) (v : Option Nat) : s_R (s_wR S a i v) = s_R S := rfl
theorem n_wR (S : wS) (a i : Nat) (v : Option Nat) : s_n (s_wR S a i v) = s_n S := rfl
theorem aI_wR (S : wS) (a i : Nat) (v : Option Nat) : s_aI (s_wR S a i v) = s_aI S := rfl
theorem aL_wR (S : wS) (a i : Nat) (v : Option Nat) : s_aL (s_wR S a i v) = s_aL S := rfl
theorem aR_wR (S : wS) (a i : Nat) (v : Option Nat) : s_aR (s_wR S a i v) = fun b j => if b = a ∧ j = i then v else s_aR S b j := rfl
theorem nx_new (S : wS) (kd N : Nat) : s_nx (s_new S kd N) = s_nx S + 1 := rfl
theorem lm_new (S : wS) (kd N : Nat) : s_lm (s_new S kd N) = s_lm S := rfl
theorem sl_new (S : wS) (kd N : Nat) : s_sl (s_new S kd N) = s_sl S + N := rfl
theorem sm_new (S : wS) (kd N : Nat) : s_sm (s_new S kd N) = s_sm S := rfl
theorem K_new (S : wS) (kd N : Nat) : s_K (s_new S kd N) = fun b => if b = s_nx S then kd else s_K S b := rfl
theorem I_new (S : wS) (kd N : Nat) : s_I (s_new S kd N) = fun j b => if b = s_nx S then 0 else s_I S j b := rfl
theorem L_new (S : wS) (kd N : Nat) : s_L (s_new S kd N) = fun j b => if b = s_nx S then 0 else s_L S j b := rfl
theorem R_new (S : wS) (kd N : Nat) : s_R (s_new S kd N) = fun j b => if b = s_nx S then none else s_R S j b := rfl
theorem n_new (S : wS) (kd N : Nat) : s_n (s_new S kd N) = s_n S := rfl
theorem aI_new (S : wS) (kd N : Nat) : s_aI (s_new S kd N) = s_aI S := rfl
theorem aL_new (S : wS) (kd N : Nat) : s_aL (s_new S kd N) = s_aL S := rfl
theorem aR_new (S : wS) (kd N : Nat) : s_aR (s_new S kd N) = s_aR S := rfl
theorem nx_newA (S : wS) (kd N : Nat) : s_nx (s_newA S kd N) = s_nx S + 1 := rfl
theorem lm_newA (S : wS) (kd N : Nat) : s_lm (s_newA S kd N) = s_lm S := rfl
theorem sl_newA (S : wS) (kd N : Nat) : s_sl (s_newA S kd N) = s_sl S + N := rfl
theorem sm_newA (S : wS) (kd N : Nat) : s_sm (s_newA S kd N) = s_sm S := rfl
theorem K_newA (S : wS) (kd N : Nat) : s_K (s_newA S kd N) = fun b => if b = s_nx S then kd else s_K S b := rfl
theorem I_newA (S : wS) (kd N : Nat) : s_I (s_newA S kd N) = s_I S := rfl
theorem L_newA (S : wS) (kd N : Nat) : s_L (s_newA S kd N) = s_L S := rfl
theorem R_newA (S : wS) (kd N : Nat) : s_R (s_newA S kd N) = s_R S := rfl
theorem n_newA (S : wS) (kd N : Nat) : s_n (s_newA S kd N) = fun b => if b = s_nx S then N else s_n S b := rfl
theorem aI_newA (S : wS) (kd N : Nat) : s_aI (s_newA S kd N) = fun b j => if b = s_nx S then 0 else s_aI S b j := rfl
theorem aL_newA (S : wS) (kd N : Nat) : s_aL (s_newA S kd N) = fun b j => if b = s_nx S then 0 else s_aL S b j := rfl
theorem aR_newA (S : wS) (kd N : Nat) : s_aR (s_newA S kd N) = fun b j => if b = s_nx S then none else s_aR S b j := rfl
/-- the cell of an address -/
def wE (Y : Nat → ClassId) (S : wS) (a : Nat) : va_E := match s_K S a with
  | 1 => .inr (0, [.int (s_I S 0 a), .int (s_I S 1 a), .int (s_I S 2 a), .int (s_I S 3 a), .long (s_L S 0 a), va_rf (s_R S 0 a), .int (s_I S 4 a)])
  | 2 => .inr (1, [va_rf (s_R S 1 a), .int (s_I S 5 a)])
  | 3 => .inr (2, [va_rf (s_R S 2 a), va_rf (s_R S 3 a)])
  | 5 => .inr (4, [.int (s_I S 6 a), va_rf (s_R S 4 a)])
  | 6 => .inr (5, [va_rf (s_R S 5 a), .int (s_I S 7 a)])
  | 7 => .inr (6, [va_rf (s_R S 6 a), va_rf (s_R S 7 a), va_rf (s_R S 8 a), .int (s_I S 8 a), .int (s_I S 9 a), .int (s_I S 10 a), .int (s_I S 11 a)])
  | 8 => .inr (7, [.int (s_I S 12 a), .int (s_I S 13 a), va_rf (s_R S 9 a)])
  | 9 => .inr (8, [va_rf (s_R S 10 a), va_rf (s_R S 11 a), va_rf (s_R S 12 a), va_rf (s_R S 13 a), va_rf (s_R S 14 a), va_rf (s_R S 15 a), .long (s_L S 1 a), .int (s_I S 14 a)])
  | 10 => .inr (9, [.int (s_I S 15 a), va_rf (s_R S 16 a), va_rf (s_R S 17 a), va_rf (s_R S 18 a), .int (s_I S 16 a), .int (s_I S 17 a), va_rf (s_R S 19 a), va_rf (s_R S 20 a), .int (s_I S 18 a), va_rf (s_R S 21 a), va_rf (s_R S 22 a), va_rf (s_R S 23 a), va_rf (s_R S 24 a), va_rf (s_R S 25 a), va_rf (s_R S 26 a), va_rf (s_R S 27 a), va_rf (s_R S 28 a), .int (s_I S 19 a), .int (s_I S 20 a), .int (s_I S 21 a), .long (s_L S 2 a), .int (s_I S 22 a), va_rf (s_R S 29 a), va_rf (s_R S 30 a), va_rf (s_R S 31 a), va_rf (s_R S 32 a), va_rf (s_R S 33 a), va_rf (s_R S 34 a), .long (s_L S 3 a), .int (s_I S 23 a), .int (s_I S 24 a), .int (s_I S 25 a), .int (s_I S 26 a), .int (s_I S 27 a), .long (s_L S 4 a), va_rf (s_R S 35 a)])
  | 21 => .inl (Y 0, s_n S a, .inl (s_aI S a))
  | 22 => .inl (Y 1, s_n S a, .inr (.inl (s_aL S a)))
  | 23 => .inl (Y 2, s_n S a, .inr (.inr (.inr (.inr (s_aR S a)))))
  | 24 => .inl (Y 3, s_n S a, .inr (.inr (.inr (.inr (s_aR S a)))))
  | _ => .inl (Y 0, 0, .inl (fun _ => 0))
theorem wE_X0 {Y : Nat → ClassId} {S : wS} {a : Nat} (h : s_K S a = 1) : wE Y S a = .inr (0, [.int (s_I S 0 a), .int (s_I S 1 a), .int (s_I S 2 a), .int (s_I S 3 a), .long (s_L S 0 a), va_rf (s_R S 0 a), .int (s_I S 4 a)]) := by unfold wE; rw [h]; rfl
theorem wE_X1 {Y : Nat → ClassId} {S : wS} {a : Nat} (h : s_K S a = 2) : wE Y S a = .inr (1, [va_rf (s_R S 1 a), .int (s_I S 5 a)]) := by unfold wE; rw [h]; rfl
theorem wE_X3 {Y : Nat → ClassId} {S : wS} {a : Nat} (h : s_K S a = 3) : wE Y S a = .inr (2, [va_rf (s_R S 2 a), va_rf (s_R S 3 a)]) := by unfold wE; rw [h]; rfl
theorem wE_X5 {Y : Nat → ClassId} {S : wS} {a : Nat} (h : s_K S a = 5) : wE Y S a = .inr (4, [.int (s_I S 6 a), va_rf (s_R S 4 a)]) := by unfold wE; rw [h]; rfl
theorem wE_X6 {Y : Nat → ClassId} {S : wS} {a : Nat} (h : s_K S a = 6) : wE Y S a = .inr (5, [va_rf (s_R S 5 a), .int (s_I S 7 a)]) := by unfold wE; rw [h]; rfl
theorem wE_X7 {Y : Nat → ClassId} {S : wS} {a : Nat} (h : s_K S a = 7) : wE Y S a = .inr (6, [va_rf (s_R S 6 a), va_rf (s_R S 7 a), va_rf (s_R S 8 a), .int (s_I S 8 a), .int (s_I S 9 a), .int (s_I S 10 a), .int (s_I S 11 a)]) := by unfold wE; rw [h]; rfl
theorem wE_X9 {Y : Nat → ClassId} {S : wS} {a : Nat} (h : s_K S a = 8) : wE Y S a = .inr (7, [.int (s_I S 12 a), .int (s_I S 13 a), va_rf (s_R S 9 a)]) := by unfold wE; rw [h]; rfl
theorem wE_X10 {Y : Nat → ClassId} {S : wS} {a : Nat} (h : s_K S a = 9) : wE Y S a = .inr (8, [va_rf (s_R S 10 a), va_rf (s_R S 11 a), va_rf (s_R S 12 a), va_rf (s_R S 13 a), va_rf (s_R S 14 a), va_rf (s_R S 15 a), .long (s_L S 1 a), .int (s_I S 14 a)]) := by unfold wE; rw [h]; rfl
theorem wE_X11 {Y : Nat → ClassId} {S : wS} {a : Nat} (h : s_K S a = 10) : wE Y S a = .inr (9, [.int (s_I S 15 a), va_rf (s_R S 16 a), va_rf (s_R S 17 a), va_rf (s_R S 18 a), .int (s_I S 16 a), .int (s_I S 17 a), va_rf (s_R S 19 a), va_rf (s_R S 20 a), .int (s_I S 18 a), va_rf (s_R S 21 a), va_rf (s_R S 22 a), va_rf (s_R S 23 a), va_rf (s_R S 24 a), va_rf (s_R S 25 a), va_rf (s_R S 26 a), va_rf (s_R S 27 a), va_rf (s_R S 28 a), .int (s_I S 19 a), .int (s_I S 20 a), .int (s_I S 21 a), .long (s_L S 2 a), .int (s_I S 22 a), va_rf (s_R S 29 a), va_rf (s_R S 30 a), va_rf (s_R S 31 a), va_rf (s_R S 32 a), va_rf (s_R S 33 a), va_rf (s_R S 34 a), .long (s_L S 3 a), .int (s_I S 23 a), .int (s_I S 24 a), .int (s_I S 25 a), .int (s_I S 26 a), .int (s_I S 27 a), .long (s_L S 4 a), va_rf (s_R S 35 a)]) := by unfold wE; rw [h]; rfl
theorem wE_21 {Y : Nat → ClassId} {S : wS} {a : Nat} (h : s_K S a = 21) : wE Y S a = .inl (Y 0, s_n S a, .inl (s_aI S a)) := by unfold wE; rw [h]; rfl
theorem wE_22 {Y : Nat → ClassId} {S : wS} {a : Nat} (h : s_K S a = 22) : wE Y S a = .inl (Y 1, s_n S a, .inr (.inl (s_aL S a))) := by unfold wE; rw [h]; rfl
theorem wE_23 {Y : Nat → ClassId} {S : wS} {a : Nat} (h : s_K S a = 23) : wE Y S a = .inl (Y 2, s_n S a, .inr (.inr (.inr (.inr (s_aR S a))))) := by unfold wE; rw [h]; rfl
theorem wE_24 {Y : Nat → ClassId} {S : wS} {a : Nat} (h : s_K S a = 24) : wE Y S a = .inl (Y 3, s_n S a, .inr (.inr (.inr (.inr (s_aR S a))))) := by unfold wE; rw [h]; rfl
theorem wE_congr {Y : Nat → ClassId} {S S' : wS} {a : Nat} (h1 : s_K S' a = s_K S a) (h2 : ∀ i, s_I S' i a = s_I S i a) (h3 : ∀ i, s_L S' i a = s_L S i a) (h4 : ∀ i, s_R S' i a = s_R S i a) (h5 : s_n S' a = s_n S a) (h6 : s_aI S' a = s_aI S a) (h7 : s_aL S' a = s_aL S a) (h8 : s_aR S' a = s_aR S a) : wE Y S' a = wE Y S a := by
  unfold wE; simp only [h1, h2, h3, h4, h5, h6, h7, h8]
/-- the heap is as S says -/
def wH (D : va_G) (Y : Nat → ClassId) (A : Nat → Prop) (S : wS) (H : Heap) : Prop := H.size = s_nx S ∧ ∀ a, s_K S a ≠ 0 → va_at D vwCl (a, wE Y S a) H ∧ A a
def wG (S0 S : wS) : Prop := s_nx S0 ≤ s_nx S ∧ s_nx S ≤ s_lm S ∧ s_lm S = s_lm S0 ∧ s_sl S0 ≤ s_sl S ∧ s_sl S ≤ s_sm S ∧ s_sm S = s_sm S0
theorem wG.trans {S0 S1 S2 : wS} (h : wG S0 S1) (k : wG S1 S2) : wG S0 S2 := by
  obtain ⟨a1, a2, a3, a4, a5, a6⟩ := h
  obtain ⟨b1, b2, b3, b4, b5, b6⟩ := k
  exact ⟨by omega, by omega, by omega, by omega, by omega, by omega⟩
theorem wG.self {S0 S1 : wS} (h : wG S0 S1) : wG S1 S1 := ⟨Nat.le_refl _, h.2.1, rfl, Nat.le_refl _, h.2.2.2.2.1, rfl⟩
theorem wE_pI {Y : Nat → ClassId} (S : wS) (i a : Nat) (v : Int32) {b : Nat} (hb : b ≠ a) : wE Y (s_pI S i a v) b = wE Y S b := wE_congr rfl (fun j => if_neg (fun z => hb z.2)) (fun _ => rfl) (fun _ => rfl) rfl rfl rfl rfl
theorem wE_pL {Y : Nat → ClassId} (S : wS) (i a : Nat) (v : Int64) {b : Nat} (hb : b ≠ a) : wE Y (s_pL S i a v) b = wE Y S b := wE_congr rfl (fun _ => rfl) (fun j => if_neg (fun z => hb z.2)) (fun _ => rfl) rfl rfl rfl rfl
theorem wE_pR {Y : Nat → ClassId} (S : wS) (i a : Nat) (v : Option Nat) {b : Nat} (hb : b ≠ a) : wE Y (s_pR S i a v) b = wE Y S b := wE_congr rfl (fun _ => rfl) (fun _ => rfl) (fun j => if_neg (fun z => hb z.2)) rfl rfl rfl rfl
theorem wE_wI {Y : Nat → ClassId} (S : wS) (a i : Nat) (v : Int32) {b : Nat} (hb : b ≠ a) : wE Y (s_wI S a i v) b = wE Y S b := wE_congr rfl (fun _ => rfl) (fun _ => rfl) (fun _ => rfl) rfl (funext fun j => if_neg (fun z => hb z.1)) rfl rfl
theorem wE_wL {Y : Nat → ClassId} (S : wS) (a i : Nat) (v : Int64) {b : Nat} (hb : b ≠ a) : wE Y (s_wL S a i v) b = wE Y S b := wE_congr rfl (fun _ => rfl) (fun _ => rfl) (fun _ => rfl) rfl rfl (funext fun j => if_neg (fun z => hb z.1)) rfl
theorem wE_wR {Y : Nat → ClassId} (S : wS) (a i : Nat) (v : Option Nat) {b : Nat} (hb : b ≠ a) : wE Y (s_wR S a i v) b = wE Y S b := wE_congr rfl (fun _ => rfl) (fun _ => rfl) (fun _ => rfl) rfl rfl rfl (funext fun j => if_neg (fun z => hb z.1))
theorem wE_new {Y : Nat → ClassId} (S : wS) (kd N : Nat) {b : Nat} (hb : b ≠ s_nx S) : wE Y (s_new S kd N) b = wE Y S b := wE_congr (if_neg hb) (fun _ => if_neg hb) (fun _ => if_neg hb) (fun _ => if_neg hb) rfl rfl rfl rfl
theorem wE_newA {Y : Nat → ClassId} (S : wS) (kd N : Nat) {b : Nat} (hb : b ≠ s_nx S) : wE Y (s_newA S kd N) b = wE Y S b := wE_congr (if_neg hb) (fun _ => rfl) (fun _ => rfl) (fun _ => rfl) (if_neg hb) (funext fun _ => if_neg hb) (funext fun _ => if_neg hb) (funext fun _ => if_neg hb)
theorem ly_X0 : ∀ w ∈ u_ws RX0 TX0 7, w ∈ lw_all := fun w hw => by
  obtain ⟨k, hk, rfl⟩ := List.mem_map.mp hw
  have hk := List.mem_range.mp hk
  match k, hk with
  | 0, _ => exact qw292
  | 1, _ => exact qw294
  | 2, _ => exact qw296
  | 3, _ => exact qw298
  | 4, _ => exact qw300
  | 5, _ => exact qw302
  | 6, _ => exact qw304
  | k + 7, hk => exact absurd hk (by omega)
theorem ly_X1 : ∀ w ∈ u_ws RX1 TX1 2, w ∈ lw_all := fun w hw => by
  obtain ⟨k, hk, rfl⟩ := List.mem_map.mp hw
  have hk := List.mem_range.mp hk
  match k, hk with
  | 0, _ => exact qw52
  | 1, _ => exact qw54
  | k + 2, hk => exact absurd hk (by omega)
theorem ly_X3 : ∀ w ∈ u_ws RX3 TX3 2, w ∈ lw_all := fun w hw => by
  obtain ⟨k, hk, rfl⟩ := List.mem_map.mp hw
  have hk := List.mem_range.mp hk
  match k, hk with
  | 0, _ => exact qw65
  | 1, _ => exact qw67
  | k + 2, hk => exact absurd hk (by omega)
theorem ly_X5 : ∀ w ∈ u_ws RX5 TX5 2, w ∈ lw_all := fun w hw => by
  obtain ⟨k, hk, rfl⟩ := List.mem_map.mp hw
  have hk := List.mem_range.mp hk
  match k, hk with
  | 0, _ => exact qw177
  | 1, _ => exact qw179
  | k + 2, hk => exact absurd hk (by omega)
theorem ly_X6 : ∀ w ∈ u_ws RX6 TX6 2, w ∈ lw_all := fun w hw => by
  obtain ⟨k, hk, rfl⟩ := List.mem_map.mp hw
  have hk := List.mem_range.mp hk
  match k, hk with
  | 0, _ => exact qw36
  | 1, _ => exact qw38
  | k + 2, hk => exact absurd hk (by omega)
theorem ly_X7 : ∀ w ∈ u_ws RX7 TX7 7, w ∈ lw_all := fun w hw => by
  obtain ⟨k, hk, rfl⟩ := List.mem_map.mp hw
  have hk := List.mem_range.mp hk
  match k, hk with
  | 0, _ => exact qw87
  | 1, _ => exact qw89
  | 2, _ => exact qw91
  | 3, _ => exact qw93
  | 4, _ => exact qw95
  | 5, _ => exact qw97
  | 6, _ => exact qw99
  | k + 7, hk => exact absurd hk (by omega)
theorem ly_X9 : ∀ w ∈ u_ws RX9 TX9 3, w ∈ lw_all := fun w hw => by
  obtain ⟨k, hk, rfl⟩ := List.mem_map.mp hw
  have hk := List.mem_range.mp hk
  match k, hk with
  | 0, _ => exact qw118
  | 1, _ => exact qw120
  | 2, _ => exact qw122
  | k + 3, hk => exact absurd hk (by omega)
theorem ly_X10 : ∀ w ∈ u_ws RX10 TX10 8, w ∈ lw_all := fun w hw => by
  obtain ⟨k, hk, rfl⟩ := List.mem_map.mp hw
  have hk := List.mem_range.mp hk
  match k, hk with
  | 0, _ => exact qw134
  | 1, _ => exact qw136
  | 2, _ => exact qw138
  | 3, _ => exact qw140
  | 4, _ => exact qw142
  | 5, _ => exact qw144
  | 6, _ => exact qw146
  | 7, _ => exact qw148
  | k + 8, hk => exact absurd hk (by omega)
theorem ly_X11 : ∀ w ∈ u_ws RX11 TX11 36, w ∈ lw_all := fun w hw => by
  obtain ⟨k, hk, rfl⟩ := List.mem_map.mp hw
  have hk := List.mem_range.mp hk
  match k, hk with
  | 0, _ => exact qw726
  | 1, _ => exact qw728
  | 2, _ => exact qw730
  | 3, _ => exact qw732
  | 4, _ => exact qw734
  | 5, _ => exact qw736
  | 6, _ => exact qw738
  | 7, _ => exact qw740
  | 8, _ => exact qw742
  | 9, _ => exact qw744
  | 10, _ => exact qw746
  | 11, _ => exact qw748
  | 12, _ => exact qw750
  | 13, _ => exact qw752
  | 14, _ => exact qw754
  | 15, _ => exact qw756
  | 16, _ => exact qw758
  | 17, _ => exact qw760
  | 18, _ => exact qw762
  | 19, _ => exact qw764
  | 20, _ => exact qw766
  | 21, _ => exact qw768
  | 22, _ => exact qw770
  | 23, _ => exact qw772
  | 24, _ => exact qw774
  | 25, _ => exact qw776
  | 26, _ => exact qw778
  | 27, _ => exact qw780
  | 28, _ => exact qw782
  | 29, _ => exact qw784
  | 30, _ => exact qw786
  | 31, _ => exact qw788
  | 32, _ => exact qw790
  | 33, _ => exact qw792
  | 34, _ => exact qw794
  | 35, _ => exact qw796
  | k + 36, hk => exact absurd hk (by omega)
section HP
variable {p : Program} {l : Launch} {e : Env} {R : Room} {s : State} {m : MethodId} {args : Array Value} {below : List Frame} {meth : Method} {c : Code} {H : Heap} {locs : List Loc} {cells slots : Nat} {Q : State → Prop}
variable {D : va_G} {Y : Nat → ClassId} {aR : Nat → Nat} {A : Nat → Prop} {cc : ByteArray} {own nm : String} {mx : Nat} {rt : Option FieldType} {pc : Nat} {ls : Array Slot} {rest : List Value} {a index : Nat}
theorem jq_one {ci : Nat} {fs : List Value} (h : va_at D vwCl (a, .inr (ci, fs)) H) : va_P D vwCl [(a, .inr (ci, fs))] H := by
  intro k q hk
  match k, hk with
  | 0, hk => cases hk; exact h
  | k + 1, hk => simp at hk
theorem jq_oneA {x : ClassId × vp_A} (h : va_at D vwCl (a, .inl x) H) : va_P D vwCl [(a, .inl x)] H := by
  intro k q hk
  match k, hk with
  | 0, hk => cases hk; exact h
  | k + 1, hk => simp at hk
/-- a field read, of a cell that is known -/
theorem jq_rdf {ci k N : Nat} {C : String} {T : u_T} {fs : List Value} {v : Value} (hX : jq_X D Y aR A p s m args meth c cc own nm mx rt) (hat : va_at D vwCl (a, .inr (ci, fs)) H) (hin : ∀ w ∈ u_ws C T N, w ∈ lw_all) (hc : vwCl[ci]? = some (C, T, N)) (hk : k < N)
    (hl : Cond.fieldLink own index (T k).1 (T k).2.1 (T k).2.2.1 ∈ lw_all) (hv : fs[k]? = some v) (hdg : decode cc pc = .ok (.getfield index, 3))
    (kk : W p l e R s m args below meth c H locs cells slots Q (F0 m (pc + 3) ls (v :: rest))) : W p l e R s m args below meth c H locs cells slots Q (F0 m pc ls (.ref a :: rest)) :=
  va_get hX.1 hX.2.1 hX.2.2.2.2.1 hin hX.2.2.2.1 hX.2.2.2.2.2.1.1 (jq_one hat) 0 rfl hc k hk (hX.2.2.2.2.1 _ hl) (fun _ h => h) hv hdg kk
theorem jq_rdfN {ci k N : Nat} {C host : String} {T : u_T} {fs : List Value} {v : Value} (hX : jq_X D Y aR A p s m args meth c cc own nm mx rt) (hat : va_at D vwCl (a, .inr (ci, fs)) H) (hin : ∀ w ∈ u_ws C T N, w ∈ lw_all) (hc : vwCl[ci]? = some (C, T, N)) (hk : k < N)
    (hl : Cond.fieldLinkNest own index (T k).1 (T k).2.1 (T k).2.2.1 host ∈ lw_nest) (hv : fs[k]? = some v) (hdg : decode cc pc = .ok (.getfield index, 3))
    (kk : W p l e R s m args below meth c H locs cells slots Q (F0 m (pc + 3) ls (v :: rest))) : W p l e R s m args below meth c H locs cells slots Q (F0 m pc ls (.ref a :: rest)) :=
  va_getN hX.1 hX.2.1 hX.2.2.2.2.1 hin hX.2.2.2.1 hX.2.2.2.2.2.1.1 (jq_one hat) 0 rfl hc k hk (va_Nw.use rfl (hX.2.2.2.2.2.1.2.1 _ hl)) (fun _ h => h) hv hdg kk
theorem jq_recvA {ci N : Nat} {C : String} {T : u_T} {fs : List Value} (hK : va_K D vwCl (jq_T Y) s) (hat : va_at D vwCl (a, .inr (ci, fs)) H) (hc : vwCl[ci]? = some (C, T, N)) : ∃ cell : Cell, H[a]? = some cell ∧ cell.vm.isStatics = false ∧ s.vm.findClass C = some cell.cls :=
  va_recv hK (jq_one hat) hc (q0 := 0) rfl
/-- a field written -/
theorem jq_wrf {ci k N : Nat} {C : String} {T : u_T} {fs : List Value} {v : Value} {ty : FieldType} {ty0 : Nat → FieldType} (hX : jq_X D Y aR A p s m args meth c cc own nm mx rt) (hat : va_at D vwCl (a, .inr (ci, fs)) H) (hin : ∀ w ∈ u_ws C T N, w ∈ lw_all) (hty : ∀ k, k < N → parseFieldDescriptor (T k).2.2.1 = some (ty0 k)) (hnm : ∀ a, a < N → ∀ b, b < N → a ≠ b → (T a).2.1 ≠ (T b).2.1) (hc : vwCl[ci]? = some (C, T, N)) (hk : k < N)
    (hl : Cond.fieldLink own index (T k).1 (T k).2.1 (T k).2.2.1 ∈ lw_all) (hfin : (T k).2.2.2 = false ∨ ((T k).2.2.2 = true ∧ nm = "<init>" ∧ (T k).1 = own)) (hd : parseFieldDescriptor (T k).2.2.1 = some ty) (hn : narrow ty v = v) (hfit : fits ty v = true) (hlen : k < fs.length) (hS : va_S A s.heap H locs) (hA : A a) (hdg : decode cc pc = .ok (.putfield index, 3))
    (kk : ∀ (H1 : Heap) (locs1 : List Loc), va_at D vwCl (a, .inr (ci, fs.set k v)) H1 → H1.size = H.size → (∀ q : Nat, q ≠ a → H1[q]? = H[q]?) → va_S A s.heap H1 locs1 → W p l e R s m args below meth c H1 locs1 cells slots Q (F0 m (pc + 3) ls rest)) : W p l e R s m args below meth c H locs cells slots Q (F0 m pc ls (v :: .ref a :: rest)) := by
  obtain ⟨hx, hb, -, hown, hts, ⟨hK, -⟩, -, -, hnm2⟩ := hX
  have hap := va_apart (own := own) hts hin ty0 hty hnm hK hc
  obtain ⟨r, h1, cell, q1, q2, q3, q4⟩ := hat
  have hr : r = (C, T, N) := Option.some.inj (h1.symm.trans hc)
  subst hr
  obtain ⟨hSl, hfc, kC, hkC, hkind⟩ := hK.1 ci _ hc
  obtain ⟨cf, kf, fi, f, hi, hsl⟩ := hSl k hk
  have hst := (u_facts hfc hkC (u_lays hts hin hk) hi).1
  have hlay := hts _ (hin _ (u_in_lay hk))
  have fin : ∀ (H1 : Heap) (i0 : Nat), i0 = D.2 ci k → H1[a]? = some (cell.setSlot i0 v) → H1.size = H.size → (∀ q : Nat, q ≠ a → H1[q]? = H[q]?) → W p l e R s m args below meth c H1 (locs ++ [⟨a, i0⟩]) cells slots Q (F0 m (pc + 3) ls rest) := by
    intro H1 i0 hi0 e1 e2 e3
    subst hi0
    exact kk H1 _ ⟨_, hc, t_OB.to (V := updV (vp_V fs) k v) ⟨_, e1, q2, q3, t_set q4 hap hk v⟩ (fun j _ => vp_updV_set hlen v j)⟩ e2 e3 (hS.put e2 e3 hA)
  rcases hfin with hfin | ⟨hfin, hin2, hdecl⟩
  · unfold u_lay at hlay
    rw [if_neg (by rw [hfin]; decide)] at hlay
    have h6 := u_store hfc hkC hkind hlay hi hd hn hfit
    exact W.putK hx hb (f := f) ⟨hown, hts _ hl, ⟨_, _, _, hi⟩, hst⟩ (by rw [q2]; exact h6) q1 q3 (by rw [hsl]; exact k2_hasslot (q4 k hk)) rfl rfl hdg fun H' e1 e2 e3 => fin H' _ hsl e1 e2 e3
  · unfold u_lay at hlay
    rw [if_pos hfin] at hlay
    have hcf : m.cls = cf := by
      obtain ⟨_, _, c', _, _, _, -, -, hf', -, -, -, hown2, -⟩ := Cond.laysFinal_spec hlay
      have e1 : c' = cf := by have := hi.symm.trans hf'; simp at this; exact this.1.symm
      rw [hdecl] at hown2
      rw [← e1]; exact Option.some.inj (hown.symm.trans hown2)
    have h6 := u_fits hfc hkC hkind (Or.inr hlay) hi hd hn hfit
    exact W.putFinK hx hb hown (hts _ hl) hi hst hcf (hnm2.trans hin2) (by rw [q2]; exact h6) q1 q3 (by rw [hsl]; exact k2_hasslot (q4 k hk)) rfl rfl hdg fun H' e1 e2 e3 => fin H' _ hsl e1 e2 e3
theorem wH.at {S : wS} (hH : wH D Y A S H) (h : s_K S a ≠ 0) : va_at D vwCl (a, wE Y S a) H := (hH.2 a h).1
theorem wH.set {S S1 : wS} {H1 : Heap} (hH : wH D Y A S H) (ha : s_K S a ≠ 0) (hx : s_nx S1 = s_nx S) (hK : s_K S1 = s_K S) (ho : ∀ b, b ≠ a → wE Y S1 b = wE Y S b) (h1 : va_at D vwCl (a, wE Y S1 a) H1) (hz : H1.size = H.size) (hq : ∀ q : Nat, q ≠ a → H1[q]? = H[q]?) : wH D Y A S1 H1 := by
  refine ⟨by rw [hz, hx]; exact hH.1, fun b hb => ?_⟩
  rw [hK] at hb
  refine ⟨?_, (hH.2 b hb).2⟩
  by_cases hba : b = a
  · subst hba; exact h1
  · rw [ho b hba]; exact (hH.2 b hb).1.kept (hq b hba)
end HP
end
section
/-! small pieces that the methods' functions are made of, and what follows where they answer -/
section OO
variable {α β : Type}
def o_gI (kd i a : Nat) (S : wS) (f : Int32 → Option α) : Option α := if s_K S a = kd then f (s_I S i a) else none
theorem o_gI_e {kd i a : Nat} {S : wS} {f : Int32 → Option α} {r : α} (h : o_gI kd i a S f = some r) : s_K S a = kd ∧ ∃ x, s_I S i a = x ∧ f x = some r := by
  unfold o_gI at h; split at h
  · exact ⟨by assumption, _, rfl, h⟩
  · cases h
def o_gL (kd i a : Nat) (S : wS) (f : Int64 → Option α) : Option α := if s_K S a = kd then f (s_L S i a) else none
theorem o_gL_e {kd i a : Nat} {S : wS} {f : Int64 → Option α} {r : α} (h : o_gL kd i a S f = some r) : s_K S a = kd ∧ ∃ x, s_L S i a = x ∧ f x = some r := by
  unfold o_gL at h; split at h
  · exact ⟨by assumption, _, rfl, h⟩
  · cases h
def o_gR (kd i a : Nat) (S : wS) (f : Option Nat → Option α) : Option α := if s_K S a = kd then f (s_R S i a) else none
theorem o_gR_e {kd i a : Nat} {S : wS} {f : Option Nat → Option α} {r : α} (h : o_gR kd i a S f = some r) : s_K S a = kd ∧ ∃ x, s_R S i a = x ∧ f x = some r := by
  unfold o_gR at h; split at h
  · exact ⟨by assumption, _, rfl, h⟩
  · cases h
def o_pI (kd i a : Nat) (v : Int32) (S : wS) (f : wS → Option α) : Option α := if s_K S a = kd then f (s_pI S i a v) else none
theorem o_pI_e {kd i a : Nat} {v : Int32} {S : wS} {f : wS → Option α} {r : α} (h : o_pI kd i a v S f = some r) : s_K S a = kd ∧ ∃ x, s_pI S i a v = x ∧ f x = some r := by
  unfold o_pI at h; split at h
  · exact ⟨by assumption, _, rfl, h⟩
  · cases h
def o_pL (kd i a : Nat) (v : Int64) (S : wS) (f : wS → Option α) : Option α := if s_K S a = kd then f (s_pL S i a v) else none
theorem o_pL_e {kd i a : Nat} {v : Int64} {S : wS} {f : wS → Option α} {r : α} (h : o_pL kd i a v S f = some r) : s_K S a = kd ∧ ∃ x, s_pL S i a v = x ∧ f x = some r := by
  unfold o_pL at h; split at h
  · exact ⟨by assumption, _, rfl, h⟩
  · cases h
def o_pR (kd i a : Nat) (v : Option Nat) (S : wS) (f : wS → Option α) : Option α := if s_K S a = kd then f (s_pR S i a v) else none
theorem o_pR_e {kd i a : Nat} {v : Option Nat} {S : wS} {f : wS → Option α} {r : α} (h : o_pR kd i a v S f = some r) : s_K S a = kd ∧ ∃ x, s_pR S i a v = x ∧ f x = some r := by
  unfold o_pR at h; split at h
  · exact ⟨by assumption, _, rfl, h⟩
  · cases h
def o_rI (a : Nat) (i : Int32) (S : wS) (f : Int32 → Option α) : Option α := if s_K S a = 21 ∧ ¬ (i < 0 ∨ s_n S a ≤ i.toNatClampNeg) then f (s_aI S a i.toNatClampNeg) else none
theorem o_rI_e {a : Nat} {i : Int32} {S : wS} {f : Int32 → Option α} {r : α} (h : o_rI a i S f = some r) : (s_K S a = 21 ∧ ¬ (i < 0 ∨ s_n S a ≤ i.toNatClampNeg)) ∧ ∃ x, s_aI S a i.toNatClampNeg = x ∧ f x = some r := by
  unfold o_rI at h; split at h
  · exact ⟨by assumption, _, rfl, h⟩
  · cases h
def o_rL (a : Nat) (i : Int32) (S : wS) (f : Int64 → Option α) : Option α := if s_K S a = 22 ∧ ¬ (i < 0 ∨ s_n S a ≤ i.toNatClampNeg) then f (s_aL S a i.toNatClampNeg) else none
theorem o_rL_e {a : Nat} {i : Int32} {S : wS} {f : Int64 → Option α} {r : α} (h : o_rL a i S f = some r) : (s_K S a = 22 ∧ ¬ (i < 0 ∨ s_n S a ≤ i.toNatClampNeg)) ∧ ∃ x, s_aL S a i.toNatClampNeg = x ∧ f x = some r := by
  unfold o_rL at h; split at h
  · exact ⟨by assumption, _, rfl, h⟩
  · cases h
def o_rR (kd a : Nat) (i : Int32) (S : wS) (f : Option Nat → Option α) : Option α := if s_K S a = kd ∧ ¬ (i < 0 ∨ s_n S a ≤ i.toNatClampNeg) then f (s_aR S a i.toNatClampNeg) else none
theorem o_rR_e {kd a : Nat} {i : Int32} {S : wS} {f : Option Nat → Option α} {r : α} (h : o_rR kd a i S f = some r) : (s_K S a = kd ∧ ¬ (i < 0 ∨ s_n S a ≤ i.toNatClampNeg)) ∧ ∃ x, s_aR S a i.toNatClampNeg = x ∧ f x = some r := by
  unfold o_rR at h; split at h
  · exact ⟨by assumption, _, rfl, h⟩
  · cases h
def o_wI (a : Nat) (i v : Int32) (S : wS) (f : wS → Option α) : Option α := if s_K S a = 21 ∧ ¬ (i < 0 ∨ s_n S a ≤ i.toNatClampNeg) then f (s_wI S a i.toNatClampNeg v) else none
theorem o_wI_e {a : Nat} {i v : Int32} {S : wS} {f : wS → Option α} {r : α} (h : o_wI a i v S f = some r) : (s_K S a = 21 ∧ ¬ (i < 0 ∨ s_n S a ≤ i.toNatClampNeg)) ∧ ∃ x, s_wI S a i.toNatClampNeg v = x ∧ f x = some r := by
  unfold o_wI at h; split at h
  · exact ⟨by assumption, _, rfl, h⟩
  · cases h
def o_wL (a : Nat) (i : Int32) (v : Int64) (S : wS) (f : wS → Option α) : Option α := if s_K S a = 22 ∧ ¬ (i < 0 ∨ s_n S a ≤ i.toNatClampNeg) then f (s_wL S a i.toNatClampNeg v) else none
theorem o_wL_e {a : Nat} {i : Int32} {v : Int64} {S : wS} {f : wS → Option α} {r : α} (h : o_wL a i v S f = some r) : (s_K S a = 22 ∧ ¬ (i < 0 ∨ s_n S a ≤ i.toNatClampNeg)) ∧ ∃ x, s_wL S a i.toNatClampNeg v = x ∧ f x = some r := by
  unfold o_wL at h; split at h
  · exact ⟨by assumption, _, rfl, h⟩
  · cases h
def o_wR (kd ke a : Nat) (i : Int32) (v : Nat) (S : wS) (f : wS → Option α) : Option α := if (s_K S a = kd ∧ s_K S v = ke) ∧ ¬ (i < 0 ∨ s_n S a ≤ i.toNatClampNeg) then f (s_wR S a i.toNatClampNeg (some v)) else none
theorem o_wR_e {kd ke a : Nat} {i : Int32} {v : Nat} {S : wS} {f : wS → Option α} {r : α} (h : o_wR kd ke a i v S f = some r) : ((s_K S a = kd ∧ s_K S v = ke) ∧ ¬ (i < 0 ∨ s_n S a ≤ i.toNatClampNeg)) ∧ ∃ x, s_wR S a i.toNatClampNeg (some v) = x ∧ f x = some r := by
  unfold o_wR at h; split at h
  · exact ⟨by assumption, _, rfl, h⟩
  · cases h
def o_len (kd a : Nat) (S : wS) (f : Int32 → Option α) : Option α := if s_K S a = kd then f (Int32.ofNat (s_n S a)) else none
theorem o_len_e {kd a : Nat} {S : wS} {f : Int32 → Option α} {r : α} (h : o_len kd a S f = some r) : s_K S a = kd ∧ ∃ x, Int32.ofNat (s_n S a) = x ∧ f x = some r := by
  unfold o_len at h; split at h
  · exact ⟨by assumption, _, rfl, h⟩
  · cases h
def o_new (kd N : Nat) (S : wS) (f : Nat → wS → Option α) : Option α := if s_nx S + 1 ≤ s_lm S ∧ s_sl S + N ≤ s_sm S then f (s_nx S) (s_new S kd N) else none
theorem o_new_e {kd N : Nat} {S : wS} {f : Nat → wS → Option α} {r : α} (h : o_new kd N S f = some r) : (s_nx S + 1 ≤ s_lm S ∧ s_sl S + N ≤ s_sm S) ∧ ∃ q x, s_nx S = q ∧ s_new S kd N = x ∧ f q x = some r := by
  unfold o_new at h; split at h
  · exact ⟨by assumption, _, _, rfl, rfl, h⟩
  · cases h
def o_newA (kd : Nat) (n : Int32) (S : wS) (f : Nat → wS → Option α) : Option α := if (¬ n < 0 ∧ n.toNatClampNeg ≤ 1000) ∧ s_nx S + 1 ≤ s_lm S ∧ s_sl S + n.toNatClampNeg ≤ s_sm S then f (s_nx S) (s_newA S kd n.toNatClampNeg) else none
theorem o_newA_e {kd : Nat} {n : Int32} {S : wS} {f : Nat → wS → Option α} {r : α} (h : o_newA kd n S f = some r) : ((¬ n < 0 ∧ n.toNatClampNeg ≤ 1000) ∧ s_nx S + 1 ≤ s_lm S ∧ s_sl S + n.toNatClampNeg ≤ s_sm S) ∧ ∃ q x, s_nx S = q ∧ s_newA S kd n.toNatClampNeg = x ∧ f q x = some r := by
  unfold o_newA at h; split at h
  · exact ⟨by assumption, _, _, rfl, rfl, h⟩
  · cases h
def o_ck (c : Prop) [Decidable c] (f : Option α) : Option α := if c then f else none
theorem o_ck_e {c : Prop} [Decidable c] {f : Option α} {r : α} (h : o_ck c f = some r) : c ∧ f = some r := by
  unfold o_ck at h; split at h
  · exact ⟨by assumption, h⟩
  · cases h
def o_let (x : β) (f : β → Option α) : Option α := f x
theorem o_let_e {x : β} {f : β → Option α} {r : α} (h : o_let x f = some r) : ∃ y, x = y ∧ f y = some r := ⟨_, rfl, h⟩
def o_call {σ : Type} (o : Option (β × σ)) (f : β → σ → Option α) : Option α := match o with
  | some q => f q.1 q.2
  | none => none
theorem o_call_e {σ : Type} {o : Option (β × σ)} {f : β → σ → Option α} {r : α} (h : o_call o f = some r) : ∃ x S, o = some (x, S) ∧ f x S = some r := by
  cases o with
  | none => cases h
  | some q => exact ⟨q.1, q.2, rfl, h⟩
def o_cP (o : Option β) (f : β → Option α) : Option α := match o with
  | some q => f q
  | none => none
theorem o_cP_e {o : Option β} {f : β → Option α} {r : α} (h : o_cP o f = some r) : ∃ x, o = some x ∧ f x = some r := by
  cases o with
  | none => cases h
  | some q => exact ⟨q, rfl, h⟩
def o_cs (x : Option Nat) (n : Option α) (f : Nat → Option α) : Option α := match x with
  | some q => f q
  | none => n
theorem o_cs_e {x : Option Nat} {n : Option α} {f : Nat → Option α} {r : α} (h : o_cs x n f = some r) : (x = none ∧ n = some r) ∨ ∃ q, x = some q ∧ f q = some r := by
  cases x with
  | none => exact Or.inl ⟨rfl, h⟩
  | some q => exact Or.inr ⟨q, rfl, h⟩
theorem o_t {c : Prop} [Decidable c] {a b : Option α} {r : α} (h : (if c then a else b) = some r) (hc : c) : a = some r := by rw [if_pos hc] at h; exact h
theorem o_f {c : Prop} [Decidable c] {a b : Option α} {r : α} (h : (if c then a else b) = some r) (hc : ¬ c) : b = some r := by rw [if_neg hc] at h; exact h
end OO
/-! contracts by kind: P (the heap stays), S (the class's heap), and their calls -/
def jq_P (l : Launch) (D : va_G) (Y : Nat → ClassId) (aR : Nat → Nat) (A : Nat → Prop) (y : MethodName) (cc : ByteArray) (mx : Nat) (rt : Option FieldType) (fr lo : Nat) (av : List Value) (r : Option Value) : Prop :=
  ∀ H0 : Heap, jq_C l D Y aR A y cc mx rt fr lo 0 0 av (fun H => H = H0) (fun v k n H => v = r ∧ k = 0 ∧ n = 0 ∧ H = H0)
def jq_S (l : Launch) (D : va_G) (Y : Nat → ClassId) (aR : Nat → Nat) (A : Nat → Prop) (y : MethodName) (cc : ByteArray) (mx : Nat) (rt : Option FieldType) (fr lo : Nat) (av : List Value) (S : wS) (r : Option Value) (S1 : wS) : Prop :=
  wG S S → jq_C l D Y aR A y cc mx rt fr lo (s_lm S - s_nx S) (s_sm S - s_sl S) av (wH D Y A S) (fun v k n H => v = r ∧ k = s_nx S1 - s_nx S ∧ n = s_sl S1 - s_sl S ∧ wG S S1 ∧ wH D Y A S1 H)
/-- where a walk over the class's heap stands -/
def wJ (D : va_G) (Y : Nat → ClassId) (A : Nat → Prop) (s : State) (S0 S : wS) (H : Heap) (locs : List Loc) : Prop := wG S0 S ∧ wH D Y A S H ∧ va_S A s.heap H locs
theorem jq_enterP {l : Launch} {D : va_G} {Y : Nat → ClassId} {aR : Nat → Nat} {A : Nat → Prop} {y : MethodName} {cc : ByteArray} {mx : Nat} {rt : Option FieldType} {fr lo : Nat} {av : List Value} {r : Option Value}
    (hy : plainName y.cls = true) (hfit : (lg_sl av).length ≤ mx)
    (body : ∀ (p : Program) (e : Env) (s : State) (m : MethodId) (args : Array Value) (below : List Frame) (meth : Method) (c : Code) (ls : Array Slot) (H : Heap) (locs : List Loc), jq_X D Y aR A p s m args meth c cc y.cls y.name mx rt → va_S A s.heap H locs → lv_has ls mx (lv_args 0 av) →
      W p l e { frames := fr, cells := 0, slots := 0, locals := lo } s m args below meth c H locs 0 0 (jq_Z below A (fun v k n H' => v = r ∧ k = 0 ∧ n = 0 ∧ H' = H) s) (F0 m 0 ls [])) :
    jq_P l D Y aR A y cc mx rt fr lo av r := by
  intro H0
  refine jq_enter hy hfit fun p e s m args below meth c ls hX hB hl => ?_
  subst hB
  exact body p e s m args below meth c ls s.heap [] hX va_S.rf hl
theorem jq_enterS {l : Launch} {D : va_G} {Y : Nat → ClassId} {aR : Nat → Nat} {A : Nat → Prop} {y : MethodName} {cc : ByteArray} {mx : Nat} {rt : Option FieldType} {fr lo : Nat} {av : List Value} {S S1 : wS} {r : Option Value}
    (hy : plainName y.cls = true) (hfit : (lg_sl av).length ≤ mx)
    (body : ∀ (p : Program) (e : Env) (s : State) (m : MethodId) (args : Array Value) (below : List Frame) (meth : Method) (c : Code) (ls : Array Slot) (H : Heap) (locs : List Loc), jq_X D Y aR A p s m args meth c cc y.cls y.name mx rt → wJ D Y A s S S H locs → lv_has ls mx (lv_args 0 av) →
      W p l e { frames := fr, cells := s_lm S - s_nx S, slots := s_sm S - s_sl S, locals := lo } s m args below meth c H locs (s_nx S - s_nx S) (s_sl S - s_sl S) (jq_Z below A (fun v k n H => v = r ∧ k = s_nx S1 - s_nx S ∧ n = s_sl S1 - s_sl S ∧ wG S S1 ∧ wH D Y A S1 H) s) (F0 m 0 ls [])) :
    jq_S l D Y aR A y cc mx rt fr lo av S r S1 := by
  intro hg
  refine jq_enter hy hfit fun p e s m args below meth c ls hX hB hl => ?_
  exact W.cs (Nat.sub_self _).symm (Nat.sub_self _).symm (body p e s m args below meth c ls s.heap [] hX ⟨hg, hB, va_S.rf⟩ hl)
section JD
variable {p : Program} {l : Launch} {e : Env} {R : Room} {s : State} {m : MethodId} {args : Array Value} {below : List Frame} {meth : Method} {c : Code} {H : Heap} {locs : List Loc} {cells slots : Nat} {Q : State → Prop}
variable {D : va_G} {Y : Nat → ClassId} {aR : Nat → Nat} {A : Nat → Prop} {cc : ByteArray} {own nm : String} {mx : Nat} {rt : Option FieldType} {pc : Nat} {ls : Array Slot} {st rest : List Value} {a index : Nat}
variable {y : MethodName} {cy : ByteArray} {my fr lo : Nat} {ry : Option FieldType} {av : List Value} {r : Option Value}
theorem jq_doP (hX : jq_X D Y aR A p s m args meth c cc own nm mx rt) (hS : va_S A s.heap H locs) (hok : jq_Ok p l e R s m args below meth c H y cy my ry av pc ls st rest) (hM : jq_P l D Y aR A y cy my ry fr lo av r) (hfr : fr + 1 ≤ R.frames) (hlo : 8 + (my + 11) + lo ≤ R.locals) (hc : cells ≤ R.cells) (hs : slots ≤ R.slots)
    (kk : ∀ locs1 : List Loc, va_S A s.heap H locs1 → W p l e R s m args below meth c H locs1 cells slots Q (F0 m (pc + 3) ls (r.toList ++ rest))) : W p l e R s m args below meth c H locs cells slots Q (F0 m pc ls st) := by
  have hA : ∀ q, H.size ≤ q → A q := fun q hq => hX.2.2.2.2.2.1.2.2.2.2.1 q (Nat.le_trans hS.1 hq)
  refine hok locs cells slots Q A A D Y aR fr lo 0 0 _ _ (hM H) (fun U hU hW => hX.2.2.2.2.2.1.at hS hU hW (fun _ h => h) hA) rfl hS (fun _ h => h) hfr hlo hc hs (fun v k n H1 locs1 hq hS1 _ _ => ?_)
  obtain ⟨rfl, rfl, rfl, rfl⟩ := hq
  exact kk locs1 hS1
theorem jq_doS {S0 S S1 : wS} {FR LO : Nat} (hX : jq_X D Y aR A p s m args meth c cc own nm mx rt) (hJ : wJ D Y A s S0 S H locs) (hok : jq_Ok p l e { frames := FR, cells := s_lm S0 - s_nx S0, slots := s_sm S0 - s_sl S0, locals := LO } s m args below meth c H y cy my ry av pc ls st rest) (hM : jq_S l D Y aR A y cy my ry fr lo av S r S1) (hfr : fr + 1 ≤ FR) (hlo : 8 + (my + 11) + lo ≤ LO)
    (kk : ∀ (H1 : Heap) (locs1 : List Loc), wJ D Y A s S0 S1 H1 locs1 → W p l e { frames := FR, cells := s_lm S0 - s_nx S0, slots := s_sm S0 - s_sl S0, locals := LO } s m args below meth c H1 locs1 (s_nx S1 - s_nx S0) (s_sl S1 - s_sl S0) Q (F0 m (pc + 3) ls (r.toList ++ rest))) : W p l e { frames := FR, cells := s_lm S0 - s_nx S0, slots := s_sm S0 - s_sl S0, locals := LO } s m args below meth c H locs (s_nx S - s_nx S0) (s_sl S - s_sl S0) Q (F0 m pc ls st) := by
  obtain ⟨hg, hH, hS⟩ := hJ
  have hA : ∀ q, H.size ≤ q → A q := fun q hq => hX.2.2.2.2.2.1.2.2.2.2.1 q (Nat.le_trans hS.1 hq)
  obtain ⟨g1, g2, g3, g4, g5, g6⟩ := id hg
  refine hok locs _ _ Q A A D Y aR fr lo _ _ _ _ (hM hg.self) (fun U hU hW => hX.2.2.2.2.2.1.at hS hU hW (fun _ h => h) hA) hH hS (fun _ h => h) hfr hlo (by show s_nx S - s_nx S0 + (s_lm S - s_nx S) ≤ s_lm S0 - s_nx S0; omega) (by show s_sl S - s_sl S0 + (s_sm S - s_sl S) ≤ s_sm S0 - s_sl S0; omega) (fun v k n H1 locs1 hq hS1 _ _ => ?_)
  obtain ⟨rfl, rfl, rfl, hg1, hH1⟩ := hq
  obtain ⟨f1, f2, f3, f4, f5, f6⟩ := id hg1
  exact W.cs (by omega) (by omega) (kk H1 locs1 ⟨hg.trans hg1, hH1, hS1⟩)
theorem jq_doPS {S0 S : wS} {FR LO : Nat} (hX : jq_X D Y aR A p s m args meth c cc own nm mx rt) (hJ : wJ D Y A s S0 S H locs) (hok : jq_Ok p l e { frames := FR, cells := s_lm S0 - s_nx S0, slots := s_sm S0 - s_sl S0, locals := LO } s m args below meth c H y cy my ry av pc ls st rest) (hM : jq_P l D Y aR A y cy my ry fr lo av r) (hfr : fr + 1 ≤ FR) (hlo : 8 + (my + 11) + lo ≤ LO)
    (kk : ∀ (locs1 : List Loc), wJ D Y A s S0 S H locs1 → W p l e { frames := FR, cells := s_lm S0 - s_nx S0, slots := s_sm S0 - s_sl S0, locals := LO } s m args below meth c H locs1 (s_nx S - s_nx S0) (s_sl S - s_sl S0) Q (F0 m (pc + 3) ls (r.toList ++ rest))) : W p l e { frames := FR, cells := s_lm S0 - s_nx S0, slots := s_sm S0 - s_sl S0, locals := LO } s m args below meth c H locs (s_nx S - s_nx S0) (s_sl S - s_sl S0) Q (F0 m pc ls st) := by
  obtain ⟨hg, hH, hS⟩ := hJ
  obtain ⟨g1, g2, g3, g4, g5, g6⟩ := id hg
  exact jq_doP hX hS hok hM hfr hlo (by show s_nx S - s_nx S0 ≤ s_lm S0 - s_nx S0; omega) (by show s_sl S - s_sl S0 ≤ s_sm S0 - s_sl S0; omega) (fun locs1 hS1 => kk locs1 ⟨hg, hH, hS1⟩)
theorem wJ.recv {S0 S : wS} {ci N : Nat} {C : String} {T : u_T} {fs : List Value} (hX : jq_X D Y aR A p s m args meth c cc own nm mx rt) (hJ : wJ D Y A s S0 S H locs) (hk : s_K S a ≠ 0) (he : wE Y S a = .inr (ci, fs)) (hc : vwCl[ci]? = some (C, T, N)) : ∃ cell : Cell, H[a]? = some cell ∧ cell.vm.isStatics = false ∧ s.vm.findClass C = some cell.cls := by
  have h := hJ.2.1.at hk
  rw [he] at h
  exact jq_recvA hX.2.2.2.2.2.1.1 h hc
theorem wJ.const {S0 S : wS} {k : Nat} (hX : jq_X D Y aR A p s m args meth c cc own nm mx rt) (hJ : wJ D Y A s S0 S H locs) (hk : k < 2) : ∃ cell : Cell, H[aR k]? = some cell ∧ cell.vm.isStatics = false ∧ s.vm.findClass "ScoreHandles$Real" = some cell.cls :=
  va_Orecv (hX.2.2.2.2.2.1.2.2.2.2.2 k hk).2.1 hJ.2.2
theorem jq_const {k : Nat} (hX : jq_X D Y aR A p s m args meth c cc own nm mx rt) (hS : va_S A s.heap H locs) (hk : k < 2) : ∃ cell : Cell, H[aR k]? = some cell ∧ cell.vm.isStatics = false ∧ s.vm.findClass "ScoreHandles$Real" = some cell.cls :=
  va_Orecv (hX.2.2.2.2.2.1.2.2.2.2.2 k hk).2.1 hS
/-- a constant of Real is taken -/
theorem jq_gets {k : Nat} (hX : jq_X D Y aR A p s m args meth c cc own nm mx rt) (hS : va_S A s.heap H locs) (hk : k < 2) (hl : Cond.fieldLink own index "ScoreHandles$Real" (if k = 0 then "SINGLE" else "DOUBLE") "LScoreHandles$Real;" ∈ lw_all) (hdg : decode cc pc = .ok (.getstatic index, 3))
    (kk : W p l e R s m args below meth c H locs cells slots Q (F0 m (pc + 3) ls (.ref (aR k) :: rest))) : W p l e R s m args below meth c H locs cells slots Q (F0 m pc ls rest) :=
  va_gets hX.1 hX.2.1 (hX.2.2.2.2.2.1.2.2.2.2.2 k hk).1 hS hX.2.2.2.1 (hX.2.2.2.2.1 _ hl) (fun _ h => h) hdg kk
theorem jq_rdc {n d : String} {v : Value} {k : Nat} (hX : jq_X D Y aR A p s m args meth c cc own nm mx rt) (hS : va_S A s.heap H locs) (hF : va_OF "ScoreHandles$Real" n d v (aR k) A s s.heap) (hl : Cond.fieldLink own index "ScoreHandles$Real" n d ∈ lw_all) (hdg : decode cc pc = .ok (.getfield index, 3))
    (kk : W p l e R s m args below meth c H locs cells slots Q (F0 m (pc + 3) ls (v :: rest))) : W p l e R s m args below meth c H locs cells slots Q (F0 m pc ls (.ref (aR k) :: rest)) := by
  obtain ⟨cf, kc, fi, f, cell, h1, h2, h3, h4, h5, h6⟩ := hF.kept hS.2.1
  exact W.getf hX.1 hX.2.1 hX.2.2.2.1 (hX.2.2.2.2.1 _ hl) h1 h2 h3 h4 h5 rfl rfl hdg kk
theorem gc_fraction {k : Nat} {x : Int32} (hX : jq_X D Y aR A p s m args meth c cc own nm mx rt) (hS : va_S A s.heap H locs) (hk : k < 2) (hx : rc_f k = x) (hl : Cond.fieldLink own index "ScoreHandles$Real" "fraction" "I" ∈ lw_all) (hdg : decode cc pc = .ok (.getfield index, 3)) (kk : W p l e R s m args below meth c H locs cells slots Q (F0 m (pc + 3) ls (.int x :: rest))) : W p l e R s m args below meth c H locs cells slots Q (F0 m pc ls (.ref (aR k) :: rest)) := by
  subst hx; exact jq_rdc hX hS (hX.2.2.2.2.2.1.2.2.2.2.2 k hk).2.2.1 hl hdg kk
theorem gc_bias {k : Nat} {x : Int32} (hX : jq_X D Y aR A p s m args meth c cc own nm mx rt) (hS : va_S A s.heap H locs) (hk : k < 2) (hx : rc_b k = x) (hl : Cond.fieldLink own index "ScoreHandles$Real" "bias" "I" ∈ lw_all) (hdg : decode cc pc = .ok (.getfield index, 3)) (kk : W p l e R s m args below meth c H locs cells slots Q (F0 m (pc + 3) ls (.int x :: rest))) : W p l e R s m args below meth c H locs cells slots Q (F0 m pc ls (.ref (aR k) :: rest)) := by
  subst hx; exact jq_rdc hX hS (hX.2.2.2.2.2.1.2.2.2.2.2 k hk).2.2.2.1 hl hdg kk
theorem gc_beyond {k : Nat} {x : Int32} (hX : jq_X D Y aR A p s m args meth c cc own nm mx rt) (hS : va_S A s.heap H locs) (hk : k < 2) (hx : rc_y k = x) (hl : Cond.fieldLink own index "ScoreHandles$Real" "beyond" "I" ∈ lw_all) (hdg : decode cc pc = .ok (.getfield index, 3)) (kk : W p l e R s m args below meth c H locs cells slots Q (F0 m (pc + 3) ls (.int x :: rest))) : W p l e R s m args below meth c H locs cells slots Q (F0 m pc ls (.ref (aR k) :: rest)) := by
  subst hx; exact jq_rdc hX hS (hX.2.2.2.2.2.1.2.2.2.2.2 k hk).2.2.2.2.1 hl hdg kk
theorem gc_signs {k : Nat} {x : Int64} (hX : jq_X D Y aR A p s m args meth c cc own nm mx rt) (hS : va_S A s.heap H locs) (hk : k < 2) (hx : rc_s k = x) (hl : Cond.fieldLink own index "ScoreHandles$Real" "signs" "J" ∈ lw_all) (hdg : decode cc pc = .ok (.getfield index, 3)) (kk : W p l e R s m args below meth c H locs cells slots Q (F0 m (pc + 3) ls (.long x :: rest))) : W p l e R s m args below meth c H locs cells slots Q (F0 m pc ls (.ref (aR k) :: rest)) := by
  subst hx; exact jq_rdc hX hS (hX.2.2.2.2.2.1.2.2.2.2.2 k hk).2.2.2.2.2 hl hdg kk
theorem gf_X0_sort {S0 S : wS} {x : Int32} (hX : jq_X D Y aR A p s m args meth c cc own nm mx rt) (hJ : wJ D Y A s S0 S H locs) (hk : s_K S a = 1) (hx : s_I S 0 a = x) (hl : Cond.fieldLink own index "ScoreHandles$Handle" "sort" "I" ∈ lw_all) (hdg : decode cc pc = .ok (.getfield index, 3)) (kk : W p l e R s m args below meth c H locs (s_nx S - s_nx S0) (s_sl S - s_sl S0) Q (F0 m (pc + 3) ls (.int x :: rest))) : W p l e R s m args below meth c H locs (s_nx S - s_nx S0) (s_sl S - s_sl S0) Q (F0 m pc ls (.ref a :: rest)) := by
  have h := hJ.2.1.at (a := a) (by rw [hk]; decide)
  rw [wE_X0 hk] at h
  exact jq_rdf hX h ly_X0 rfl (k := 0) (by decide) hl (by rw [← hx]; rfl) hdg kk
theorem gn_X0_sort {S0 S : wS} {x : Int32} {host : String} (hX : jq_X D Y aR A p s m args meth c cc own nm mx rt) (hJ : wJ D Y A s S0 S H locs) (hk : s_K S a = 1) (hx : s_I S 0 a = x) (hl : Cond.fieldLinkNest own index "ScoreHandles$Handle" "sort" "I" host ∈ lw_nest) (hdg : decode cc pc = .ok (.getfield index, 3)) (kk : W p l e R s m args below meth c H locs (s_nx S - s_nx S0) (s_sl S - s_sl S0) Q (F0 m (pc + 3) ls (.int x :: rest))) : W p l e R s m args below meth c H locs (s_nx S - s_nx S0) (s_sl S - s_sl S0) Q (F0 m pc ls (.ref a :: rest)) := by
  have h := hJ.2.1.at (a := a) (by rw [hk]; decide)
  rw [wE_X0 hk] at h
  exact jq_rdfN hX h ly_X0 rfl (k := 0) (by decide) hl (by rw [← hx]; rfl) hdg kk
theorem pf_X0_sort {S0 S S1 : wS} {v : Int32} (hX : jq_X D Y aR A p s m args meth c cc own nm mx rt) (hJ : wJ D Y A s S0 S H locs) (hk : s_K S a = 1) (hx : s_pI S 0 a v = S1) (hn : nm = "<init>") (ho : (TX0 0).1 = own) (hl : Cond.fieldLink own index "ScoreHandles$Handle" "sort" "I" ∈ lw_all) (hdg : decode cc pc = .ok (.putfield index, 3)) (kk : ∀ (H1 : Heap) (locs1 : List Loc), wJ D Y A s S0 S1 H1 locs1 → W p l e R s m args below meth c H1 locs1 (s_nx S1 - s_nx S0) (s_sl S1 - s_sl S0) Q (F0 m (pc + 3) ls rest)) : W p l e R s m args below meth c H locs (s_nx S - s_nx S0) (s_sl S - s_sl S0) Q (F0 m pc ls (.int v :: .ref a :: rest)) := by
  subst hx
  have h := hJ.2.1.at (a := a) (by rw [hk]; decide)
  rw [wE_X0 hk] at h
  refine jq_wrf hX h ly_X0 tyX0_ok nmX0 rfl (k := 0) (by decide) hl (Or.inr ⟨rfl, hn, ho⟩) (ty := .int) (by decide +kernel) rfl rfl (by show _ < _; simp) hJ.2.2 (hJ.2.1.2 a (by rw [hk]; decide)).2 hdg (fun H1 locs1 h1 hz hq hS1 => kk H1 locs1 ⟨hJ.1, hJ.2.1.set (a := a) (by rw [hk]; decide) rfl rfl (fun b hb => wE_pI S 0 a _ hb) ?_ hz hq, hS1⟩)
  rw [wE_X0 (S := s_pI S 0 a _) hk]
  simp only [I_pI, L_pI, R_pI, and_true, if_true, reduceIte, Nat.reduceEqDiff, false_and]
  exact h1
theorem gf_X0_a {S0 S : wS} {x : Int32} (hX : jq_X D Y aR A p s m args meth c cc own nm mx rt) (hJ : wJ D Y A s S0 S H locs) (hk : s_K S a = 1) (hx : s_I S 1 a = x) (hl : Cond.fieldLink own index "ScoreHandles$Handle" "a" "I" ∈ lw_all) (hdg : decode cc pc = .ok (.getfield index, 3)) (kk : W p l e R s m args below meth c H locs (s_nx S - s_nx S0) (s_sl S - s_sl S0) Q (F0 m (pc + 3) ls (.int x :: rest))) : W p l e R s m args below meth c H locs (s_nx S - s_nx S0) (s_sl S - s_sl S0) Q (F0 m pc ls (.ref a :: rest)) := by
  have h := hJ.2.1.at (a := a) (by rw [hk]; decide)
  rw [wE_X0 hk] at h
  exact jq_rdf hX h ly_X0 rfl (k := 1) (by decide) hl (by rw [← hx]; rfl) hdg kk
theorem gn_X0_a {S0 S : wS} {x : Int32} {host : String} (hX : jq_X D Y aR A p s m args meth c cc own nm mx rt) (hJ : wJ D Y A s S0 S H locs) (hk : s_K S a = 1) (hx : s_I S 1 a = x) (hl : Cond.fieldLinkNest own index "ScoreHandles$Handle" "a" "I" host ∈ lw_nest) (hdg : decode cc pc = .ok (.getfield index, 3)) (kk : W p l e R s m args below meth c H locs (s_nx S - s_nx S0) (s_sl S - s_sl S0) Q (F0 m (pc + 3) ls (.int x :: rest))) : W p l e R s m args below meth c H locs (s_nx S - s_nx S0) (s_sl S - s_sl S0) Q (F0 m pc ls (.ref a :: rest)) := by
  have h := hJ.2.1.at (a := a) (by rw [hk]; decide)
  rw [wE_X0 hk] at h
  exact jq_rdfN hX h ly_X0 rfl (k := 1) (by decide) hl (by rw [← hx]; rfl) hdg kk
theorem pf_X0_a {S0 S S1 : wS} {v : Int32} (hX : jq_X D Y aR A p s m args meth c cc own nm mx rt) (hJ : wJ D Y A s S0 S H locs) (hk : s_K S a = 1) (hx : s_pI S 1 a v = S1) (hn : nm = "<init>") (ho : (TX0 1).1 = own) (hl : Cond.fieldLink own index "ScoreHandles$Handle" "a" "I" ∈ lw_all) (hdg : decode cc pc = .ok (.putfield index, 3)) (kk : ∀ (H1 : Heap) (locs1 : List Loc), wJ D Y A s S0 S1 H1 locs1 → W p l e R s m args below meth c H1 locs1 (s_nx S1 - s_nx S0) (s_sl S1 - s_sl S0) Q (F0 m (pc + 3) ls rest)) : W p l e R s m args below meth c H locs (s_nx S - s_nx S0) (s_sl S - s_sl S0) Q (F0 m pc ls (.int v :: .ref a :: rest)) := by
  subst hx
  have h := hJ.2.1.at (a := a) (by rw [hk]; decide)
  rw [wE_X0 hk] at h
  refine jq_wrf hX h ly_X0 tyX0_ok nmX0 rfl (k := 1) (by decide) hl (Or.inr ⟨rfl, hn, ho⟩) (ty := .int) (by decide +kernel) rfl rfl (by show _ < _; simp) hJ.2.2 (hJ.2.1.2 a (by rw [hk]; decide)).2 hdg (fun H1 locs1 h1 hz hq hS1 => kk H1 locs1 ⟨hJ.1, hJ.2.1.set (a := a) (by rw [hk]; decide) rfl rfl (fun b hb => wE_pI S 1 a _ hb) ?_ hz hq, hS1⟩)
  rw [wE_X0 (S := s_pI S 1 a _) hk]
  simp only [I_pI, L_pI, R_pI, and_true, if_true, reduceIte, Nat.reduceEqDiff, false_and]
  exact h1
theorem gf_X0_b {S0 S : wS} {x : Int32} (hX : jq_X D Y aR A p s m args meth c cc own nm mx rt) (hJ : wJ D Y A s S0 S H locs) (hk : s_K S a = 1) (hx : s_I S 2 a = x) (hl : Cond.fieldLink own index "ScoreHandles$Handle" "b" "I" ∈ lw_all) (hdg : decode cc pc = .ok (.getfield index, 3)) (kk : W p l e R s m args below meth c H locs (s_nx S - s_nx S0) (s_sl S - s_sl S0) Q (F0 m (pc + 3) ls (.int x :: rest))) : W p l e R s m args below meth c H locs (s_nx S - s_nx S0) (s_sl S - s_sl S0) Q (F0 m pc ls (.ref a :: rest)) := by
  have h := hJ.2.1.at (a := a) (by rw [hk]; decide)
  rw [wE_X0 hk] at h
  exact jq_rdf hX h ly_X0 rfl (k := 2) (by decide) hl (by rw [← hx]; rfl) hdg kk
theorem gn_X0_b {S0 S : wS} {x : Int32} {host : String} (hX : jq_X D Y aR A p s m args meth c cc own nm mx rt) (hJ : wJ D Y A s S0 S H locs) (hk : s_K S a = 1) (hx : s_I S 2 a = x) (hl : Cond.fieldLinkNest own index "ScoreHandles$Handle" "b" "I" host ∈ lw_nest) (hdg : decode cc pc = .ok (.getfield index, 3)) (kk : W p l e R s m args below meth c H locs (s_nx S - s_nx S0) (s_sl S - s_sl S0) Q (F0 m (pc + 3) ls (.int x :: rest))) : W p l e R s m args below meth c H locs (s_nx S - s_nx S0) (s_sl S - s_sl S0) Q (F0 m pc ls (.ref a :: rest)) := by
  have h := hJ.2.1.at (a := a) (by rw [hk]; decide)
  rw [wE_X0 hk] at h
  exact jq_rdfN hX h ly_X0 rfl (k := 2) (by decide) hl (by rw [← hx]; rfl) hdg kk
theorem pf_X0_b {S0 S S1 : wS} {v : Int32} (hX : jq_X D Y aR A p s m args meth c cc own nm mx rt) (hJ : wJ D Y A s S0 S H locs) (hk : s_K S a = 1) (hx : s_pI S 2 a v = S1) (hn : nm = "<init>") (ho : (TX0 2).1 = own) (hl : Cond.fieldLink own index "ScoreHandles$Handle" "b" "I" ∈ lw_all) (hdg : decode cc pc = .ok (.putfield index, 3)) (kk : ∀ (H1 : Heap) (locs1 : List Loc), wJ D Y A s S0 S1 H1 locs1 → W p l e R s m args below meth c H1 locs1 (s_nx S1 - s_nx S0) (s_sl S1 - s_sl S0) Q (F0 m (pc + 3) ls rest)) : W p l e R s m args below meth c H locs (s_nx S - s_nx S0) (s_sl S - s_sl S0) Q (F0 m pc ls (.int v :: .ref a :: rest)) := by
  subst hx
  have h := hJ.2.1.at (a := a) (by rw [hk]; decide)
  rw [wE_X0 hk] at h
  refine jq_wrf hX h ly_X0 tyX0_ok nmX0 rfl (k := 2) (by decide) hl (Or.inr ⟨rfl, hn, ho⟩) (ty := .int) (by decide +kernel) rfl rfl (by show _ < _; simp) hJ.2.2 (hJ.2.1.2 a (by rw [hk]; decide)).2 hdg (fun H1 locs1 h1 hz hq hS1 => kk H1 locs1 ⟨hJ.1, hJ.2.1.set (a := a) (by rw [hk]; decide) rfl rfl (fun b hb => wE_pI S 2 a _ hb) ?_ hz hq, hS1⟩)
  rw [wE_X0 (S := s_pI S 2 a _) hk]
  simp only [I_pI, L_pI, R_pI, and_true, if_true, reduceIte, Nat.reduceEqDiff, false_and]
  exact h1
theorem gf_X0_c {S0 S : wS} {x : Int32} (hX : jq_X D Y aR A p s m args meth c cc own nm mx rt) (hJ : wJ D Y A s S0 S H locs) (hk : s_K S a = 1) (hx : s_I S 3 a = x) (hl : Cond.fieldLink own index "ScoreHandles$Handle" "c" "I" ∈ lw_all) (hdg : decode cc pc = .ok (.getfield index, 3)) (kk : W p l e R s m args below meth c H locs (s_nx S - s_nx S0) (s_sl S - s_sl S0) Q (F0 m (pc + 3) ls (.int x :: rest))) : W p l e R s m args below meth c H locs (s_nx S - s_nx S0) (s_sl S - s_sl S0) Q (F0 m pc ls (.ref a :: rest)) := by
  have h := hJ.2.1.at (a := a) (by rw [hk]; decide)
  rw [wE_X0 hk] at h
  exact jq_rdf hX h ly_X0 rfl (k := 3) (by decide) hl (by rw [← hx]; rfl) hdg kk
theorem gn_X0_c {S0 S : wS} {x : Int32} {host : String} (hX : jq_X D Y aR A p s m args meth c cc own nm mx rt) (hJ : wJ D Y A s S0 S H locs) (hk : s_K S a = 1) (hx : s_I S 3 a = x) (hl : Cond.fieldLinkNest own index "ScoreHandles$Handle" "c" "I" host ∈ lw_nest) (hdg : decode cc pc = .ok (.getfield index, 3)) (kk : W p l e R s m args below meth c H locs (s_nx S - s_nx S0) (s_sl S - s_sl S0) Q (F0 m (pc + 3) ls (.int x :: rest))) : W p l e R s m args below meth c H locs (s_nx S - s_nx S0) (s_sl S - s_sl S0) Q (F0 m pc ls (.ref a :: rest)) := by
  have h := hJ.2.1.at (a := a) (by rw [hk]; decide)
  rw [wE_X0 hk] at h
  exact jq_rdfN hX h ly_X0 rfl (k := 3) (by decide) hl (by rw [← hx]; rfl) hdg kk
theorem pf_X0_c {S0 S S1 : wS} {v : Int32} (hX : jq_X D Y aR A p s m args meth c cc own nm mx rt) (hJ : wJ D Y A s S0 S H locs) (hk : s_K S a = 1) (hx : s_pI S 3 a v = S1) (hn : nm = "<init>") (ho : (TX0 3).1 = own) (hl : Cond.fieldLink own index "ScoreHandles$Handle" "c" "I" ∈ lw_all) (hdg : decode cc pc = .ok (.putfield index, 3)) (kk : ∀ (H1 : Heap) (locs1 : List Loc), wJ D Y A s S0 S1 H1 locs1 → W p l e R s m args below meth c H1 locs1 (s_nx S1 - s_nx S0) (s_sl S1 - s_sl S0) Q (F0 m (pc + 3) ls rest)) : W p l e R s m args below meth c H locs (s_nx S - s_nx S0) (s_sl S - s_sl S0) Q (F0 m pc ls (.int v :: .ref a :: rest)) := by
  subst hx
  have h := hJ.2.1.at (a := a) (by rw [hk]; decide)
  rw [wE_X0 hk] at h
  refine jq_wrf hX h ly_X0 tyX0_ok nmX0 rfl (k := 3) (by decide) hl (Or.inr ⟨rfl, hn, ho⟩) (ty := .int) (by decide +kernel) rfl rfl (by show _ < _; simp) hJ.2.2 (hJ.2.1.2 a (by rw [hk]; decide)).2 hdg (fun H1 locs1 h1 hz hq hS1 => kk H1 locs1 ⟨hJ.1, hJ.2.1.set (a := a) (by rw [hk]; decide) rfl rfl (fun b hb => wE_pI S 3 a _ hb) ?_ hz hq, hS1⟩)
  rw [wE_X0 (S := s_pI S 3 a _) hk]
  simp only [I_pI, L_pI, R_pI, and_true, if_true, reduceIte, Nat.reduceEqDiff, false_and]
  exact h1
theorem gf_X0_v {S0 S : wS} {x : Int64} (hX : jq_X D Y aR A p s m args meth c cc own nm mx rt) (hJ : wJ D Y A s S0 S H locs) (hk : s_K S a = 1) (hx : s_L S 0 a = x) (hl : Cond.fieldLink own index "ScoreHandles$Handle" "v" "J" ∈ lw_all) (hdg : decode cc pc = .ok (.getfield index, 3)) (kk : W p l e R s m args below meth c H locs (s_nx S - s_nx S0) (s_sl S - s_sl S0) Q (F0 m (pc + 3) ls (.long x :: rest))) : W p l e R s m args below meth c H locs (s_nx S - s_nx S0) (s_sl S - s_sl S0) Q (F0 m pc ls (.ref a :: rest)) := by
  have h := hJ.2.1.at (a := a) (by rw [hk]; decide)
  rw [wE_X0 hk] at h
  exact jq_rdf hX h ly_X0 rfl (k := 4) (by decide) hl (by rw [← hx]; rfl) hdg kk
theorem gn_X0_v {S0 S : wS} {x : Int64} {host : String} (hX : jq_X D Y aR A p s m args meth c cc own nm mx rt) (hJ : wJ D Y A s S0 S H locs) (hk : s_K S a = 1) (hx : s_L S 0 a = x) (hl : Cond.fieldLinkNest own index "ScoreHandles$Handle" "v" "J" host ∈ lw_nest) (hdg : decode cc pc = .ok (.getfield index, 3)) (kk : W p l e R s m args below meth c H locs (s_nx S - s_nx S0) (s_sl S - s_sl S0) Q (F0 m (pc + 3) ls (.long x :: rest))) : W p l e R s m args below meth c H locs (s_nx S - s_nx S0) (s_sl S - s_sl S0) Q (F0 m pc ls (.ref a :: rest)) := by
  have h := hJ.2.1.at (a := a) (by rw [hk]; decide)
  rw [wE_X0 hk] at h
  exact jq_rdfN hX h ly_X0 rfl (k := 4) (by decide) hl (by rw [← hx]; rfl) hdg kk
theorem pf_X0_v {S0 S S1 : wS} {v : Int64} (hX : jq_X D Y aR A p s m args meth c cc own nm mx rt) (hJ : wJ D Y A s S0 S H locs) (hk : s_K S a = 1) (hx : s_pL S 0 a v = S1) (hl : Cond.fieldLink own index "ScoreHandles$Handle" "v" "J" ∈ lw_all) (hdg : decode cc pc = .ok (.putfield index, 3)) (kk : ∀ (H1 : Heap) (locs1 : List Loc), wJ D Y A s S0 S1 H1 locs1 → W p l e R s m args below meth c H1 locs1 (s_nx S1 - s_nx S0) (s_sl S1 - s_sl S0) Q (F0 m (pc + 3) ls rest)) : W p l e R s m args below meth c H locs (s_nx S - s_nx S0) (s_sl S - s_sl S0) Q (F0 m pc ls (.long v :: .ref a :: rest)) := by
  subst hx
  have h := hJ.2.1.at (a := a) (by rw [hk]; decide)
  rw [wE_X0 hk] at h
  refine jq_wrf hX h ly_X0 tyX0_ok nmX0 rfl (k := 4) (by decide) hl (Or.inl rfl) (ty := .long) (by decide +kernel) rfl rfl (by show _ < _; simp) hJ.2.2 (hJ.2.1.2 a (by rw [hk]; decide)).2 hdg (fun H1 locs1 h1 hz hq hS1 => kk H1 locs1 ⟨hJ.1, hJ.2.1.set (a := a) (by rw [hk]; decide) rfl rfl (fun b hb => wE_pL S 0 a _ hb) ?_ hz hq, hS1⟩)
  rw [wE_X0 (S := s_pL S 0 a _) hk]
  simp only [I_pL, L_pL, R_pL, and_true, if_true, reduceIte, Nat.reduceEqDiff, false_and]
  exact h1
theorem gf_X0_type {S0 S : wS} {x : Option Nat} (hX : jq_X D Y aR A p s m args meth c cc own nm mx rt) (hJ : wJ D Y A s S0 S H locs) (hk : s_K S a = 1) (hx : s_R S 0 a = x) (hl : Cond.fieldLink own index "ScoreHandles$Handle" "type" "LScoreHandles$Type;" ∈ lw_all) (hdg : decode cc pc = .ok (.getfield index, 3)) (kk : W p l e R s m args below meth c H locs (s_nx S - s_nx S0) (s_sl S - s_sl S0) Q (F0 m (pc + 3) ls (va_rf x :: rest))) : W p l e R s m args below meth c H locs (s_nx S - s_nx S0) (s_sl S - s_sl S0) Q (F0 m pc ls (.ref a :: rest)) := by
  have h := hJ.2.1.at (a := a) (by rw [hk]; decide)
  rw [wE_X0 hk] at h
  exact jq_rdf hX h ly_X0 rfl (k := 5) (by decide) hl (by rw [← hx]; rfl) hdg kk
theorem gn_X0_type {S0 S : wS} {x : Option Nat} {host : String} (hX : jq_X D Y aR A p s m args meth c cc own nm mx rt) (hJ : wJ D Y A s S0 S H locs) (hk : s_K S a = 1) (hx : s_R S 0 a = x) (hl : Cond.fieldLinkNest own index "ScoreHandles$Handle" "type" "LScoreHandles$Type;" host ∈ lw_nest) (hdg : decode cc pc = .ok (.getfield index, 3)) (kk : W p l e R s m args below meth c H locs (s_nx S - s_nx S0) (s_sl S - s_sl S0) Q (F0 m (pc + 3) ls (va_rf x :: rest))) : W p l e R s m args below meth c H locs (s_nx S - s_nx S0) (s_sl S - s_sl S0) Q (F0 m pc ls (.ref a :: rest)) := by
  have h := hJ.2.1.at (a := a) (by rw [hk]; decide)
  rw [wE_X0 hk] at h
  exact jq_rdfN hX h ly_X0 rfl (k := 5) (by decide) hl (by rw [← hx]; rfl) hdg kk
theorem pf_X0_type {S0 S S1 : wS} {v : Nat} (hX : jq_X D Y aR A p s m args meth c cc own nm mx rt) (hJ : wJ D Y A s S0 S H locs) (hk : s_K S a = 1) (hx : s_pR S 0 a (some v) = S1) (hl : Cond.fieldLink own index "ScoreHandles$Handle" "type" "LScoreHandles$Type;" ∈ lw_all) (hdg : decode cc pc = .ok (.putfield index, 3)) (kk : ∀ (H1 : Heap) (locs1 : List Loc), wJ D Y A s S0 S1 H1 locs1 → W p l e R s m args below meth c H1 locs1 (s_nx S1 - s_nx S0) (s_sl S1 - s_sl S0) Q (F0 m (pc + 3) ls rest)) : W p l e R s m args below meth c H locs (s_nx S - s_nx S0) (s_sl S - s_sl S0) Q (F0 m pc ls (.ref v :: .ref a :: rest)) := by
  subst hx
  have h := hJ.2.1.at (a := a) (by rw [hk]; decide)
  rw [wE_X0 hk] at h
  refine jq_wrf hX h ly_X0 tyX0_ok nmX0 rfl (k := 5) (by decide) hl (Or.inl rfl) (ty := (.object "ScoreHandles$Type")) (by decide +kernel) rfl rfl (by show _ < _; simp) hJ.2.2 (hJ.2.1.2 a (by rw [hk]; decide)).2 hdg (fun H1 locs1 h1 hz hq hS1 => kk H1 locs1 ⟨hJ.1, hJ.2.1.set (a := a) (by rw [hk]; decide) rfl rfl (fun b hb => wE_pR S 0 a _ hb) ?_ hz hq, hS1⟩)
  rw [wE_X0 (S := s_pR S 0 a _) hk]
  simp only [I_pR, L_pR, R_pR, and_true, if_true, reduceIte, Nat.reduceEqDiff, false_and]
  exact h1
theorem gf_X0_number {S0 S : wS} {x : Int32} (hX : jq_X D Y aR A p s m args meth c cc own nm mx rt) (hJ : wJ D Y A s S0 S H locs) (hk : s_K S a = 1) (hx : s_I S 4 a = x) (hl : Cond.fieldLink own index "ScoreHandles$Handle" "number" "I" ∈ lw_all) (hdg : decode cc pc = .ok (.getfield index, 3)) (kk : W p l e R s m args below meth c H locs (s_nx S - s_nx S0) (s_sl S - s_sl S0) Q (F0 m (pc + 3) ls (.int x :: rest))) : W p l e R s m args below meth c H locs (s_nx S - s_nx S0) (s_sl S - s_sl S0) Q (F0 m pc ls (.ref a :: rest)) := by
  have h := hJ.2.1.at (a := a) (by rw [hk]; decide)
  rw [wE_X0 hk] at h
  exact jq_rdf hX h ly_X0 rfl (k := 6) (by decide) hl (by rw [← hx]; rfl) hdg kk
theorem gn_X0_number {S0 S : wS} {x : Int32} {host : String} (hX : jq_X D Y aR A p s m args meth c cc own nm mx rt) (hJ : wJ D Y A s S0 S H locs) (hk : s_K S a = 1) (hx : s_I S 4 a = x) (hl : Cond.fieldLinkNest own index "ScoreHandles$Handle" "number" "I" host ∈ lw_nest) (hdg : decode cc pc = .ok (.getfield index, 3)) (kk : W p l e R s m args below meth c H locs (s_nx S - s_nx S0) (s_sl S - s_sl S0) Q (F0 m (pc + 3) ls (.int x :: rest))) : W p l e R s m args below meth c H locs (s_nx S - s_nx S0) (s_sl S - s_sl S0) Q (F0 m pc ls (.ref a :: rest)) := by
  have h := hJ.2.1.at (a := a) (by rw [hk]; decide)
  rw [wE_X0 hk] at h
  exact jq_rdfN hX h ly_X0 rfl (k := 6) (by decide) hl (by rw [← hx]; rfl) hdg kk
theorem pf_X0_number {S0 S S1 : wS} {v : Int32} (hX : jq_X D Y aR A p s m args meth c cc own nm mx rt) (hJ : wJ D Y A s S0 S H locs) (hk : s_K S a = 1) (hx : s_pI S 4 a v = S1) (hl : Cond.fieldLink own index "ScoreHandles$Handle" "number" "I" ∈ lw_all) (hdg : decode cc pc = .ok (.putfield index, 3)) (kk : ∀ (H1 : Heap) (locs1 : List Loc), wJ D Y A s S0 S1 H1 locs1 → W p l e R s m args below meth c H1 locs1 (s_nx S1 - s_nx S0) (s_sl S1 - s_sl S0) Q (F0 m (pc + 3) ls rest)) : W p l e R s m args below meth c H locs (s_nx S - s_nx S0) (s_sl S - s_sl S0) Q (F0 m pc ls (.int v :: .ref a :: rest)) := by
  subst hx
  have h := hJ.2.1.at (a := a) (by rw [hk]; decide)
  rw [wE_X0 hk] at h
  refine jq_wrf hX h ly_X0 tyX0_ok nmX0 rfl (k := 6) (by decide) hl (Or.inl rfl) (ty := .int) (by decide +kernel) rfl rfl (by show _ < _; simp) hJ.2.2 (hJ.2.1.2 a (by rw [hk]; decide)).2 hdg (fun H1 locs1 h1 hz hq hS1 => kk H1 locs1 ⟨hJ.1, hJ.2.1.set (a := a) (by rw [hk]; decide) rfl rfl (fun b hb => wE_pI S 4 a _ hb) ?_ hz hq, hS1⟩)
  rw [wE_X0 (S := s_pI S 4 a _) hk]
  simp only [I_pI, L_pI, R_pI, and_true, if_true, reduceIte, Nat.reduceEqDiff, false_and]
  exact h1
theorem gf_X1_kept {S0 S : wS} {x : Option Nat} (hX : jq_X D Y aR A p s m args meth c cc own nm mx rt) (hJ : wJ D Y A s S0 S H locs) (hk : s_K S a = 2) (hx : s_R S 1 a = x) (hl : Cond.fieldLink own index "ScoreHandles$Handles" "kept" "[LScoreHandles$Handle;" ∈ lw_all) (hdg : decode cc pc = .ok (.getfield index, 3)) (kk : W p l e R s m args below meth c H locs (s_nx S - s_nx S0) (s_sl S - s_sl S0) Q (F0 m (pc + 3) ls (va_rf x :: rest))) : W p l e R s m args below meth c H locs (s_nx S - s_nx S0) (s_sl S - s_sl S0) Q (F0 m pc ls (.ref a :: rest)) := by
  have h := hJ.2.1.at (a := a) (by rw [hk]; decide)
  rw [wE_X1 hk] at h
  exact jq_rdf hX h ly_X1 rfl (k := 0) (by decide) hl (by rw [← hx]; rfl) hdg kk
theorem gn_X1_kept {S0 S : wS} {x : Option Nat} {host : String} (hX : jq_X D Y aR A p s m args meth c cc own nm mx rt) (hJ : wJ D Y A s S0 S H locs) (hk : s_K S a = 2) (hx : s_R S 1 a = x) (hl : Cond.fieldLinkNest own index "ScoreHandles$Handles" "kept" "[LScoreHandles$Handle;" host ∈ lw_nest) (hdg : decode cc pc = .ok (.getfield index, 3)) (kk : W p l e R s m args below meth c H locs (s_nx S - s_nx S0) (s_sl S - s_sl S0) Q (F0 m (pc + 3) ls (va_rf x :: rest))) : W p l e R s m args below meth c H locs (s_nx S - s_nx S0) (s_sl S - s_sl S0) Q (F0 m pc ls (.ref a :: rest)) := by
  have h := hJ.2.1.at (a := a) (by rw [hk]; decide)
  rw [wE_X1 hk] at h
  exact jq_rdfN hX h ly_X1 rfl (k := 0) (by decide) hl (by rw [← hx]; rfl) hdg kk
theorem pf_X1_kept {S0 S S1 : wS} {v : Nat} (hX : jq_X D Y aR A p s m args meth c cc own nm mx rt) (hJ : wJ D Y A s S0 S H locs) (hk : s_K S a = 2) (hx : s_pR S 1 a (some v) = S1) (hn : nm = "<init>") (ho : (TX1 0).1 = own) (hl : Cond.fieldLink own index "ScoreHandles$Handles" "kept" "[LScoreHandles$Handle;" ∈ lw_all) (hdg : decode cc pc = .ok (.putfield index, 3)) (kk : ∀ (H1 : Heap) (locs1 : List Loc), wJ D Y A s S0 S1 H1 locs1 → W p l e R s m args below meth c H1 locs1 (s_nx S1 - s_nx S0) (s_sl S1 - s_sl S0) Q (F0 m (pc + 3) ls rest)) : W p l e R s m args below meth c H locs (s_nx S - s_nx S0) (s_sl S - s_sl S0) Q (F0 m pc ls (.ref v :: .ref a :: rest)) := by
  subst hx
  have h := hJ.2.1.at (a := a) (by rw [hk]; decide)
  rw [wE_X1 hk] at h
  refine jq_wrf hX h ly_X1 tyX1_ok nmX1 rfl (k := 0) (by decide) hl (Or.inr ⟨rfl, hn, ho⟩) (ty := (.array (.object "ScoreHandles$Handle"))) (by decide +kernel) rfl rfl (by show _ < _; simp) hJ.2.2 (hJ.2.1.2 a (by rw [hk]; decide)).2 hdg (fun H1 locs1 h1 hz hq hS1 => kk H1 locs1 ⟨hJ.1, hJ.2.1.set (a := a) (by rw [hk]; decide) rfl rfl (fun b hb => wE_pR S 1 a _ hb) ?_ hz hq, hS1⟩)
  rw [wE_X1 (S := s_pR S 1 a _) hk]
  simp only [I_pR, L_pR, R_pR, and_true, if_true, reduceIte, Nat.reduceEqDiff, false_and]
  exact h1
theorem gf_X1_many {S0 S : wS} {x : Int32} (hX : jq_X D Y aR A p s m args meth c cc own nm mx rt) (hJ : wJ D Y A s S0 S H locs) (hk : s_K S a = 2) (hx : s_I S 5 a = x) (hl : Cond.fieldLink own index "ScoreHandles$Handles" "many" "I" ∈ lw_all) (hdg : decode cc pc = .ok (.getfield index, 3)) (kk : W p l e R s m args below meth c H locs (s_nx S - s_nx S0) (s_sl S - s_sl S0) Q (F0 m (pc + 3) ls (.int x :: rest))) : W p l e R s m args below meth c H locs (s_nx S - s_nx S0) (s_sl S - s_sl S0) Q (F0 m pc ls (.ref a :: rest)) := by
  have h := hJ.2.1.at (a := a) (by rw [hk]; decide)
  rw [wE_X1 hk] at h
  exact jq_rdf hX h ly_X1 rfl (k := 1) (by decide) hl (by rw [← hx]; rfl) hdg kk
theorem gn_X1_many {S0 S : wS} {x : Int32} {host : String} (hX : jq_X D Y aR A p s m args meth c cc own nm mx rt) (hJ : wJ D Y A s S0 S H locs) (hk : s_K S a = 2) (hx : s_I S 5 a = x) (hl : Cond.fieldLinkNest own index "ScoreHandles$Handles" "many" "I" host ∈ lw_nest) (hdg : decode cc pc = .ok (.getfield index, 3)) (kk : W p l e R s m args below meth c H locs (s_nx S - s_nx S0) (s_sl S - s_sl S0) Q (F0 m (pc + 3) ls (.int x :: rest))) : W p l e R s m args below meth c H locs (s_nx S - s_nx S0) (s_sl S - s_sl S0) Q (F0 m pc ls (.ref a :: rest)) := by
  have h := hJ.2.1.at (a := a) (by rw [hk]; decide)
  rw [wE_X1 hk] at h
  exact jq_rdfN hX h ly_X1 rfl (k := 1) (by decide) hl (by rw [← hx]; rfl) hdg kk
theorem pf_X1_many {S0 S S1 : wS} {v : Int32} (hX : jq_X D Y aR A p s m args meth c cc own nm mx rt) (hJ : wJ D Y A s S0 S H locs) (hk : s_K S a = 2) (hx : s_pI S 5 a v = S1) (hl : Cond.fieldLink own index "ScoreHandles$Handles" "many" "I" ∈ lw_all) (hdg : decode cc pc = .ok (.putfield index, 3)) (kk : ∀ (H1 : Heap) (locs1 : List Loc), wJ D Y A s S0 S1 H1 locs1 → W p l e R s m args below meth c H1 locs1 (s_nx S1 - s_nx S0) (s_sl S1 - s_sl S0) Q (F0 m (pc + 3) ls rest)) : W p l e R s m args below meth c H locs (s_nx S - s_nx S0) (s_sl S - s_sl S0) Q (F0 m pc ls (.int v :: .ref a :: rest)) := by
  subst hx
  have h := hJ.2.1.at (a := a) (by rw [hk]; decide)
  rw [wE_X1 hk] at h
  refine jq_wrf hX h ly_X1 tyX1_ok nmX1 rfl (k := 1) (by decide) hl (Or.inl rfl) (ty := .int) (by decide +kernel) rfl rfl (by show _ < _; simp) hJ.2.2 (hJ.2.1.2 a (by rw [hk]; decide)).2 hdg (fun H1 locs1 h1 hz hq hS1 => kk H1 locs1 ⟨hJ.1, hJ.2.1.set (a := a) (by rw [hk]; decide) rfl rfl (fun b hb => wE_pI S 5 a _ hb) ?_ hz hq, hS1⟩)
  rw [wE_X1 (S := s_pI S 5 a _) hk]
  simp only [I_pI, L_pI, R_pI, and_true, if_true, reduceIte, Nat.reduceEqDiff, false_and]
  exact h1
theorem gf_X3_handles {S0 S : wS} {x : Option Nat} (hX : jq_X D Y aR A p s m args meth c cc own nm mx rt) (hJ : wJ D Y A s S0 S H locs) (hk : s_K S a = 3) (hx : s_R S 2 a = x) (hl : Cond.fieldLink own index "ScoreHandles$Maker" "handles" "LScoreHandles$Handles;" ∈ lw_all) (hdg : decode cc pc = .ok (.getfield index, 3)) (kk : W p l e R s m args below meth c H locs (s_nx S - s_nx S0) (s_sl S - s_sl S0) Q (F0 m (pc + 3) ls (va_rf x :: rest))) : W p l e R s m args below meth c H locs (s_nx S - s_nx S0) (s_sl S - s_sl S0) Q (F0 m pc ls (.ref a :: rest)) := by
  have h := hJ.2.1.at (a := a) (by rw [hk]; decide)
  rw [wE_X3 hk] at h
  exact jq_rdf hX h ly_X3 rfl (k := 0) (by decide) hl (by rw [← hx]; rfl) hdg kk
theorem gn_X3_handles {S0 S : wS} {x : Option Nat} {host : String} (hX : jq_X D Y aR A p s m args meth c cc own nm mx rt) (hJ : wJ D Y A s S0 S H locs) (hk : s_K S a = 3) (hx : s_R S 2 a = x) (hl : Cond.fieldLinkNest own index "ScoreHandles$Maker" "handles" "LScoreHandles$Handles;" host ∈ lw_nest) (hdg : decode cc pc = .ok (.getfield index, 3)) (kk : W p l e R s m args below meth c H locs (s_nx S - s_nx S0) (s_sl S - s_sl S0) Q (F0 m (pc + 3) ls (va_rf x :: rest))) : W p l e R s m args below meth c H locs (s_nx S - s_nx S0) (s_sl S - s_sl S0) Q (F0 m pc ls (.ref a :: rest)) := by
  have h := hJ.2.1.at (a := a) (by rw [hk]; decide)
  rw [wE_X3 hk] at h
  exact jq_rdfN hX h ly_X3 rfl (k := 0) (by decide) hl (by rw [← hx]; rfl) hdg kk
theorem pf_X3_handles {S0 S S1 : wS} {v : Nat} (hX : jq_X D Y aR A p s m args meth c cc own nm mx rt) (hJ : wJ D Y A s S0 S H locs) (hk : s_K S a = 3) (hx : s_pR S 2 a (some v) = S1) (hn : nm = "<init>") (ho : (TX3 0).1 = own) (hl : Cond.fieldLink own index "ScoreHandles$Maker" "handles" "LScoreHandles$Handles;" ∈ lw_all) (hdg : decode cc pc = .ok (.putfield index, 3)) (kk : ∀ (H1 : Heap) (locs1 : List Loc), wJ D Y A s S0 S1 H1 locs1 → W p l e R s m args below meth c H1 locs1 (s_nx S1 - s_nx S0) (s_sl S1 - s_sl S0) Q (F0 m (pc + 3) ls rest)) : W p l e R s m args below meth c H locs (s_nx S - s_nx S0) (s_sl S - s_sl S0) Q (F0 m pc ls (.ref v :: .ref a :: rest)) := by
  subst hx
  have h := hJ.2.1.at (a := a) (by rw [hk]; decide)
  rw [wE_X3 hk] at h
  refine jq_wrf hX h ly_X3 tyX3_ok nmX3 rfl (k := 0) (by decide) hl (Or.inr ⟨rfl, hn, ho⟩) (ty := (.object "ScoreHandles$Handles")) (by decide +kernel) rfl rfl (by show _ < _; simp) hJ.2.2 (hJ.2.1.2 a (by rw [hk]; decide)).2 hdg (fun H1 locs1 h1 hz hq hS1 => kk H1 locs1 ⟨hJ.1, hJ.2.1.set (a := a) (by rw [hk]; decide) rfl rfl (fun b hb => wE_pR S 2 a _ hb) ?_ hz hq, hS1⟩)
  rw [wE_X3 (S := s_pR S 2 a _) hk]
  simp only [I_pR, L_pR, R_pR, and_true, if_true, reduceIte, Nat.reduceEqDiff, false_and]
  exact h1
theorem gf_X3_rows {S0 S : wS} {x : Option Nat} (hX : jq_X D Y aR A p s m args meth c cc own nm mx rt) (hJ : wJ D Y A s S0 S H locs) (hk : s_K S a = 3) (hx : s_R S 3 a = x) (hl : Cond.fieldLink own index "ScoreHandles$Maker" "rows" "LScoreHandles$Rows;" ∈ lw_all) (hdg : decode cc pc = .ok (.getfield index, 3)) (kk : W p l e R s m args below meth c H locs (s_nx S - s_nx S0) (s_sl S - s_sl S0) Q (F0 m (pc + 3) ls (va_rf x :: rest))) : W p l e R s m args below meth c H locs (s_nx S - s_nx S0) (s_sl S - s_sl S0) Q (F0 m pc ls (.ref a :: rest)) := by
  have h := hJ.2.1.at (a := a) (by rw [hk]; decide)
  rw [wE_X3 hk] at h
  exact jq_rdf hX h ly_X3 rfl (k := 1) (by decide) hl (by rw [← hx]; rfl) hdg kk
theorem gn_X3_rows {S0 S : wS} {x : Option Nat} {host : String} (hX : jq_X D Y aR A p s m args meth c cc own nm mx rt) (hJ : wJ D Y A s S0 S H locs) (hk : s_K S a = 3) (hx : s_R S 3 a = x) (hl : Cond.fieldLinkNest own index "ScoreHandles$Maker" "rows" "LScoreHandles$Rows;" host ∈ lw_nest) (hdg : decode cc pc = .ok (.getfield index, 3)) (kk : W p l e R s m args below meth c H locs (s_nx S - s_nx S0) (s_sl S - s_sl S0) Q (F0 m (pc + 3) ls (va_rf x :: rest))) : W p l e R s m args below meth c H locs (s_nx S - s_nx S0) (s_sl S - s_sl S0) Q (F0 m pc ls (.ref a :: rest)) := by
  have h := hJ.2.1.at (a := a) (by rw [hk]; decide)
  rw [wE_X3 hk] at h
  exact jq_rdfN hX h ly_X3 rfl (k := 1) (by decide) hl (by rw [← hx]; rfl) hdg kk
theorem pf_X3_rows {S0 S S1 : wS} {v : Nat} (hX : jq_X D Y aR A p s m args meth c cc own nm mx rt) (hJ : wJ D Y A s S0 S H locs) (hk : s_K S a = 3) (hx : s_pR S 3 a (some v) = S1) (hn : nm = "<init>") (ho : (TX3 1).1 = own) (hl : Cond.fieldLink own index "ScoreHandles$Maker" "rows" "LScoreHandles$Rows;" ∈ lw_all) (hdg : decode cc pc = .ok (.putfield index, 3)) (kk : ∀ (H1 : Heap) (locs1 : List Loc), wJ D Y A s S0 S1 H1 locs1 → W p l e R s m args below meth c H1 locs1 (s_nx S1 - s_nx S0) (s_sl S1 - s_sl S0) Q (F0 m (pc + 3) ls rest)) : W p l e R s m args below meth c H locs (s_nx S - s_nx S0) (s_sl S - s_sl S0) Q (F0 m pc ls (.ref v :: .ref a :: rest)) := by
  subst hx
  have h := hJ.2.1.at (a := a) (by rw [hk]; decide)
  rw [wE_X3 hk] at h
  refine jq_wrf hX h ly_X3 tyX3_ok nmX3 rfl (k := 1) (by decide) hl (Or.inr ⟨rfl, hn, ho⟩) (ty := (.object "ScoreHandles$Rows")) (by decide +kernel) rfl rfl (by show _ < _; simp) hJ.2.2 (hJ.2.1.2 a (by rw [hk]; decide)).2 hdg (fun H1 locs1 h1 hz hq hS1 => kk H1 locs1 ⟨hJ.1, hJ.2.1.set (a := a) (by rw [hk]; decide) rfl rfl (fun b hb => wE_pR S 3 a _ hb) ?_ hz hq, hS1⟩)
  rw [wE_X3 (S := s_pR S 3 a _) hk]
  simp only [I_pR, L_pR, R_pR, and_true, if_true, reduceIte, Nat.reduceEqDiff, false_and]
  exact h1
theorem gf_X5_lane {S0 S : wS} {x : Int32} (hX : jq_X D Y aR A p s m args meth c cc own nm mx rt) (hJ : wJ D Y A s S0 S H locs) (hk : s_K S a = 5) (hx : s_I S 6 a = x) (hl : Cond.fieldLink own index "ScoreHandles$Row" "lane" "I" ∈ lw_all) (hdg : decode cc pc = .ok (.getfield index, 3)) (kk : W p l e R s m args below meth c H locs (s_nx S - s_nx S0) (s_sl S - s_sl S0) Q (F0 m (pc + 3) ls (.int x :: rest))) : W p l e R s m args below meth c H locs (s_nx S - s_nx S0) (s_sl S - s_sl S0) Q (F0 m pc ls (.ref a :: rest)) := by
  have h := hJ.2.1.at (a := a) (by rw [hk]; decide)
  rw [wE_X5 hk] at h
  exact jq_rdf hX h ly_X5 rfl (k := 0) (by decide) hl (by rw [← hx]; rfl) hdg kk
theorem gn_X5_lane {S0 S : wS} {x : Int32} {host : String} (hX : jq_X D Y aR A p s m args meth c cc own nm mx rt) (hJ : wJ D Y A s S0 S H locs) (hk : s_K S a = 5) (hx : s_I S 6 a = x) (hl : Cond.fieldLinkNest own index "ScoreHandles$Row" "lane" "I" host ∈ lw_nest) (hdg : decode cc pc = .ok (.getfield index, 3)) (kk : W p l e R s m args below meth c H locs (s_nx S - s_nx S0) (s_sl S - s_sl S0) Q (F0 m (pc + 3) ls (.int x :: rest))) : W p l e R s m args below meth c H locs (s_nx S - s_nx S0) (s_sl S - s_sl S0) Q (F0 m pc ls (.ref a :: rest)) := by
  have h := hJ.2.1.at (a := a) (by rw [hk]; decide)
  rw [wE_X5 hk] at h
  exact jq_rdfN hX h ly_X5 rfl (k := 0) (by decide) hl (by rw [← hx]; rfl) hdg kk
theorem pf_X5_lane {S0 S S1 : wS} {v : Int32} (hX : jq_X D Y aR A p s m args meth c cc own nm mx rt) (hJ : wJ D Y A s S0 S H locs) (hk : s_K S a = 5) (hx : s_pI S 6 a v = S1) (hn : nm = "<init>") (ho : (TX5 0).1 = own) (hl : Cond.fieldLink own index "ScoreHandles$Row" "lane" "I" ∈ lw_all) (hdg : decode cc pc = .ok (.putfield index, 3)) (kk : ∀ (H1 : Heap) (locs1 : List Loc), wJ D Y A s S0 S1 H1 locs1 → W p l e R s m args below meth c H1 locs1 (s_nx S1 - s_nx S0) (s_sl S1 - s_sl S0) Q (F0 m (pc + 3) ls rest)) : W p l e R s m args below meth c H locs (s_nx S - s_nx S0) (s_sl S - s_sl S0) Q (F0 m pc ls (.int v :: .ref a :: rest)) := by
  subst hx
  have h := hJ.2.1.at (a := a) (by rw [hk]; decide)
  rw [wE_X5 hk] at h
  refine jq_wrf hX h ly_X5 tyX5_ok nmX5 rfl (k := 0) (by decide) hl (Or.inr ⟨rfl, hn, ho⟩) (ty := .int) (by decide +kernel) rfl rfl (by show _ < _; simp) hJ.2.2 (hJ.2.1.2 a (by rw [hk]; decide)).2 hdg (fun H1 locs1 h1 hz hq hS1 => kk H1 locs1 ⟨hJ.1, hJ.2.1.set (a := a) (by rw [hk]; decide) rfl rfl (fun b hb => wE_pI S 6 a _ hb) ?_ hz hq, hS1⟩)
  rw [wE_X5 (S := s_pI S 6 a _) hk]
  simp only [I_pI, L_pI, R_pI, and_true, if_true, reduceIte, Nat.reduceEqDiff, false_and]
  exact h1
theorem gf_X5_items {S0 S : wS} {x : Option Nat} (hX : jq_X D Y aR A p s m args meth c cc own nm mx rt) (hJ : wJ D Y A s S0 S H locs) (hk : s_K S a = 5) (hx : s_R S 4 a = x) (hl : Cond.fieldLink own index "ScoreHandles$Row" "items" "[J" ∈ lw_all) (hdg : decode cc pc = .ok (.getfield index, 3)) (kk : W p l e R s m args below meth c H locs (s_nx S - s_nx S0) (s_sl S - s_sl S0) Q (F0 m (pc + 3) ls (va_rf x :: rest))) : W p l e R s m args below meth c H locs (s_nx S - s_nx S0) (s_sl S - s_sl S0) Q (F0 m pc ls (.ref a :: rest)) := by
  have h := hJ.2.1.at (a := a) (by rw [hk]; decide)
  rw [wE_X5 hk] at h
  exact jq_rdf hX h ly_X5 rfl (k := 1) (by decide) hl (by rw [← hx]; rfl) hdg kk
theorem gn_X5_items {S0 S : wS} {x : Option Nat} {host : String} (hX : jq_X D Y aR A p s m args meth c cc own nm mx rt) (hJ : wJ D Y A s S0 S H locs) (hk : s_K S a = 5) (hx : s_R S 4 a = x) (hl : Cond.fieldLinkNest own index "ScoreHandles$Row" "items" "[J" host ∈ lw_nest) (hdg : decode cc pc = .ok (.getfield index, 3)) (kk : W p l e R s m args below meth c H locs (s_nx S - s_nx S0) (s_sl S - s_sl S0) Q (F0 m (pc + 3) ls (va_rf x :: rest))) : W p l e R s m args below meth c H locs (s_nx S - s_nx S0) (s_sl S - s_sl S0) Q (F0 m pc ls (.ref a :: rest)) := by
  have h := hJ.2.1.at (a := a) (by rw [hk]; decide)
  rw [wE_X5 hk] at h
  exact jq_rdfN hX h ly_X5 rfl (k := 1) (by decide) hl (by rw [← hx]; rfl) hdg kk
theorem pf_X5_items {S0 S S1 : wS} {v : Nat} (hX : jq_X D Y aR A p s m args meth c cc own nm mx rt) (hJ : wJ D Y A s S0 S H locs) (hk : s_K S a = 5) (hx : s_pR S 4 a (some v) = S1) (hn : nm = "<init>") (ho : (TX5 1).1 = own) (hl : Cond.fieldLink own index "ScoreHandles$Row" "items" "[J" ∈ lw_all) (hdg : decode cc pc = .ok (.putfield index, 3)) (kk : ∀ (H1 : Heap) (locs1 : List Loc), wJ D Y A s S0 S1 H1 locs1 → W p l e R s m args below meth c H1 locs1 (s_nx S1 - s_nx S0) (s_sl S1 - s_sl S0) Q (F0 m (pc + 3) ls rest)) : W p l e R s m args below meth c H locs (s_nx S - s_nx S0) (s_sl S - s_sl S0) Q (F0 m pc ls (.ref v :: .ref a :: rest)) := by
  subst hx
  have h := hJ.2.1.at (a := a) (by rw [hk]; decide)
  rw [wE_X5 hk] at h
  refine jq_wrf hX h ly_X5 tyX5_ok nmX5 rfl (k := 1) (by decide) hl (Or.inr ⟨rfl, hn, ho⟩) (ty := (.array .long)) (by decide +kernel) rfl rfl (by show _ < _; simp) hJ.2.2 (hJ.2.1.2 a (by rw [hk]; decide)).2 hdg (fun H1 locs1 h1 hz hq hS1 => kk H1 locs1 ⟨hJ.1, hJ.2.1.set (a := a) (by rw [hk]; decide) rfl rfl (fun b hb => wE_pR S 4 a _ hb) ?_ hz hq, hS1⟩)
  rw [wE_X5 (S := s_pR S 4 a _) hk]
  simp only [I_pR, L_pR, R_pR, and_true, if_true, reduceIte, Nat.reduceEqDiff, false_and]
  exact h1
theorem gf_X6_kept {S0 S : wS} {x : Option Nat} (hX : jq_X D Y aR A p s m args meth c cc own nm mx rt) (hJ : wJ D Y A s S0 S H locs) (hk : s_K S a = 6) (hx : s_R S 5 a = x) (hl : Cond.fieldLink own index "ScoreHandles$Rows" "kept" "[LScoreHandles$Row;" ∈ lw_all) (hdg : decode cc pc = .ok (.getfield index, 3)) (kk : W p l e R s m args below meth c H locs (s_nx S - s_nx S0) (s_sl S - s_sl S0) Q (F0 m (pc + 3) ls (va_rf x :: rest))) : W p l e R s m args below meth c H locs (s_nx S - s_nx S0) (s_sl S - s_sl S0) Q (F0 m pc ls (.ref a :: rest)) := by
  have h := hJ.2.1.at (a := a) (by rw [hk]; decide)
  rw [wE_X6 hk] at h
  exact jq_rdf hX h ly_X6 rfl (k := 0) (by decide) hl (by rw [← hx]; rfl) hdg kk
theorem gn_X6_kept {S0 S : wS} {x : Option Nat} {host : String} (hX : jq_X D Y aR A p s m args meth c cc own nm mx rt) (hJ : wJ D Y A s S0 S H locs) (hk : s_K S a = 6) (hx : s_R S 5 a = x) (hl : Cond.fieldLinkNest own index "ScoreHandles$Rows" "kept" "[LScoreHandles$Row;" host ∈ lw_nest) (hdg : decode cc pc = .ok (.getfield index, 3)) (kk : W p l e R s m args below meth c H locs (s_nx S - s_nx S0) (s_sl S - s_sl S0) Q (F0 m (pc + 3) ls (va_rf x :: rest))) : W p l e R s m args below meth c H locs (s_nx S - s_nx S0) (s_sl S - s_sl S0) Q (F0 m pc ls (.ref a :: rest)) := by
  have h := hJ.2.1.at (a := a) (by rw [hk]; decide)
  rw [wE_X6 hk] at h
  exact jq_rdfN hX h ly_X6 rfl (k := 0) (by decide) hl (by rw [← hx]; rfl) hdg kk
theorem pf_X6_kept {S0 S S1 : wS} {v : Nat} (hX : jq_X D Y aR A p s m args meth c cc own nm mx rt) (hJ : wJ D Y A s S0 S H locs) (hk : s_K S a = 6) (hx : s_pR S 5 a (some v) = S1) (hn : nm = "<init>") (ho : (TX6 0).1 = own) (hl : Cond.fieldLink own index "ScoreHandles$Rows" "kept" "[LScoreHandles$Row;" ∈ lw_all) (hdg : decode cc pc = .ok (.putfield index, 3)) (kk : ∀ (H1 : Heap) (locs1 : List Loc), wJ D Y A s S0 S1 H1 locs1 → W p l e R s m args below meth c H1 locs1 (s_nx S1 - s_nx S0) (s_sl S1 - s_sl S0) Q (F0 m (pc + 3) ls rest)) : W p l e R s m args below meth c H locs (s_nx S - s_nx S0) (s_sl S - s_sl S0) Q (F0 m pc ls (.ref v :: .ref a :: rest)) := by
  subst hx
  have h := hJ.2.1.at (a := a) (by rw [hk]; decide)
  rw [wE_X6 hk] at h
  refine jq_wrf hX h ly_X6 tyX6_ok nmX6 rfl (k := 0) (by decide) hl (Or.inr ⟨rfl, hn, ho⟩) (ty := (.array (.object "ScoreHandles$Row"))) (by decide +kernel) rfl rfl (by show _ < _; simp) hJ.2.2 (hJ.2.1.2 a (by rw [hk]; decide)).2 hdg (fun H1 locs1 h1 hz hq hS1 => kk H1 locs1 ⟨hJ.1, hJ.2.1.set (a := a) (by rw [hk]; decide) rfl rfl (fun b hb => wE_pR S 5 a _ hb) ?_ hz hq, hS1⟩)
  rw [wE_X6 (S := s_pR S 5 a _) hk]
  simp only [I_pR, L_pR, R_pR, and_true, if_true, reduceIte, Nat.reduceEqDiff, false_and]
  exact h1
theorem gf_X6_many {S0 S : wS} {x : Int32} (hX : jq_X D Y aR A p s m args meth c cc own nm mx rt) (hJ : wJ D Y A s S0 S H locs) (hk : s_K S a = 6) (hx : s_I S 7 a = x) (hl : Cond.fieldLink own index "ScoreHandles$Rows" "many" "I" ∈ lw_all) (hdg : decode cc pc = .ok (.getfield index, 3)) (kk : W p l e R s m args below meth c H locs (s_nx S - s_nx S0) (s_sl S - s_sl S0) Q (F0 m (pc + 3) ls (.int x :: rest))) : W p l e R s m args below meth c H locs (s_nx S - s_nx S0) (s_sl S - s_sl S0) Q (F0 m pc ls (.ref a :: rest)) := by
  have h := hJ.2.1.at (a := a) (by rw [hk]; decide)
  rw [wE_X6 hk] at h
  exact jq_rdf hX h ly_X6 rfl (k := 1) (by decide) hl (by rw [← hx]; rfl) hdg kk
theorem gn_X6_many {S0 S : wS} {x : Int32} {host : String} (hX : jq_X D Y aR A p s m args meth c cc own nm mx rt) (hJ : wJ D Y A s S0 S H locs) (hk : s_K S a = 6) (hx : s_I S 7 a = x) (hl : Cond.fieldLinkNest own index "ScoreHandles$Rows" "many" "I" host ∈ lw_nest) (hdg : decode cc pc = .ok (.getfield index, 3)) (kk : W p l e R s m args below meth c H locs (s_nx S - s_nx S0) (s_sl S - s_sl S0) Q (F0 m (pc + 3) ls (.int x :: rest))) : W p l e R s m args below meth c H locs (s_nx S - s_nx S0) (s_sl S - s_sl S0) Q (F0 m pc ls (.ref a :: rest)) := by
  have h := hJ.2.1.at (a := a) (by rw [hk]; decide)
  rw [wE_X6 hk] at h
  exact jq_rdfN hX h ly_X6 rfl (k := 1) (by decide) hl (by rw [← hx]; rfl) hdg kk
theorem pf_X6_many {S0 S S1 : wS} {v : Int32} (hX : jq_X D Y aR A p s m args meth c cc own nm mx rt) (hJ : wJ D Y A s S0 S H locs) (hk : s_K S a = 6) (hx : s_pI S 7 a v = S1) (hl : Cond.fieldLink own index "ScoreHandles$Rows" "many" "I" ∈ lw_all) (hdg : decode cc pc = .ok (.putfield index, 3)) (kk : ∀ (H1 : Heap) (locs1 : List Loc), wJ D Y A s S0 S1 H1 locs1 → W p l e R s m args below meth c H1 locs1 (s_nx S1 - s_nx S0) (s_sl S1 - s_sl S0) Q (F0 m (pc + 3) ls rest)) : W p l e R s m args below meth c H locs (s_nx S - s_nx S0) (s_sl S - s_sl S0) Q (F0 m pc ls (.int v :: .ref a :: rest)) := by
  subst hx
  have h := hJ.2.1.at (a := a) (by rw [hk]; decide)
  rw [wE_X6 hk] at h
  refine jq_wrf hX h ly_X6 tyX6_ok nmX6 rfl (k := 1) (by decide) hl (Or.inl rfl) (ty := .int) (by decide +kernel) rfl rfl (by show _ < _; simp) hJ.2.2 (hJ.2.1.2 a (by rw [hk]; decide)).2 hdg (fun H1 locs1 h1 hz hq hS1 => kk H1 locs1 ⟨hJ.1, hJ.2.1.set (a := a) (by rw [hk]; decide) rfl rfl (fun b hb => wE_pI S 7 a _ hb) ?_ hz hq, hS1⟩)
  rw [wE_X6 (S := s_pI S 7 a _) hk]
  simp only [I_pI, L_pI, R_pI, and_true, if_true, reduceIte, Nat.reduceEqDiff, false_and]
  exact h1
theorem gf_X7_handles {S0 S : wS} {x : Option Nat} (hX : jq_X D Y aR A p s m args meth c cc own nm mx rt) (hJ : wJ D Y A s S0 S H locs) (hk : s_K S a = 7) (hx : s_R S 6 a = x) (hl : Cond.fieldLink own index "ScoreHandles$Runner" "handles" "LScoreHandles$Handles;" ∈ lw_all) (hdg : decode cc pc = .ok (.getfield index, 3)) (kk : W p l e R s m args below meth c H locs (s_nx S - s_nx S0) (s_sl S - s_sl S0) Q (F0 m (pc + 3) ls (va_rf x :: rest))) : W p l e R s m args below meth c H locs (s_nx S - s_nx S0) (s_sl S - s_sl S0) Q (F0 m pc ls (.ref a :: rest)) := by
  have h := hJ.2.1.at (a := a) (by rw [hk]; decide)
  rw [wE_X7 hk] at h
  exact jq_rdf hX h ly_X7 rfl (k := 0) (by decide) hl (by rw [← hx]; rfl) hdg kk
theorem gn_X7_handles {S0 S : wS} {x : Option Nat} {host : String} (hX : jq_X D Y aR A p s m args meth c cc own nm mx rt) (hJ : wJ D Y A s S0 S H locs) (hk : s_K S a = 7) (hx : s_R S 6 a = x) (hl : Cond.fieldLinkNest own index "ScoreHandles$Runner" "handles" "LScoreHandles$Handles;" host ∈ lw_nest) (hdg : decode cc pc = .ok (.getfield index, 3)) (kk : W p l e R s m args below meth c H locs (s_nx S - s_nx S0) (s_sl S - s_sl S0) Q (F0 m (pc + 3) ls (va_rf x :: rest))) : W p l e R s m args below meth c H locs (s_nx S - s_nx S0) (s_sl S - s_sl S0) Q (F0 m pc ls (.ref a :: rest)) := by
  have h := hJ.2.1.at (a := a) (by rw [hk]; decide)
  rw [wE_X7 hk] at h
  exact jq_rdfN hX h ly_X7 rfl (k := 0) (by decide) hl (by rw [← hx]; rfl) hdg kk
theorem pf_X7_handles {S0 S S1 : wS} {v : Nat} (hX : jq_X D Y aR A p s m args meth c cc own nm mx rt) (hJ : wJ D Y A s S0 S H locs) (hk : s_K S a = 7) (hx : s_pR S 6 a (some v) = S1) (hn : nm = "<init>") (ho : (TX7 0).1 = own) (hl : Cond.fieldLink own index "ScoreHandles$Runner" "handles" "LScoreHandles$Handles;" ∈ lw_all) (hdg : decode cc pc = .ok (.putfield index, 3)) (kk : ∀ (H1 : Heap) (locs1 : List Loc), wJ D Y A s S0 S1 H1 locs1 → W p l e R s m args below meth c H1 locs1 (s_nx S1 - s_nx S0) (s_sl S1 - s_sl S0) Q (F0 m (pc + 3) ls rest)) : W p l e R s m args below meth c H locs (s_nx S - s_nx S0) (s_sl S - s_sl S0) Q (F0 m pc ls (.ref v :: .ref a :: rest)) := by
  subst hx
  have h := hJ.2.1.at (a := a) (by rw [hk]; decide)
  rw [wE_X7 hk] at h
  refine jq_wrf hX h ly_X7 tyX7_ok nmX7 rfl (k := 0) (by decide) hl (Or.inr ⟨rfl, hn, ho⟩) (ty := (.object "ScoreHandles$Handles")) (by decide +kernel) rfl rfl (by show _ < _; simp) hJ.2.2 (hJ.2.1.2 a (by rw [hk]; decide)).2 hdg (fun H1 locs1 h1 hz hq hS1 => kk H1 locs1 ⟨hJ.1, hJ.2.1.set (a := a) (by rw [hk]; decide) rfl rfl (fun b hb => wE_pR S 6 a _ hb) ?_ hz hq, hS1⟩)
  rw [wE_X7 (S := s_pR S 6 a _) hk]
  simp only [I_pR, L_pR, R_pR, and_true, if_true, reduceIte, Nat.reduceEqDiff, false_and]
  exact h1
theorem gf_X7_rows {S0 S : wS} {x : Option Nat} (hX : jq_X D Y aR A p s m args meth c cc own nm mx rt) (hJ : wJ D Y A s S0 S H locs) (hk : s_K S a = 7) (hx : s_R S 7 a = x) (hl : Cond.fieldLink own index "ScoreHandles$Runner" "rows" "LScoreHandles$Rows;" ∈ lw_all) (hdg : decode cc pc = .ok (.getfield index, 3)) (kk : W p l e R s m args below meth c H locs (s_nx S - s_nx S0) (s_sl S - s_sl S0) Q (F0 m (pc + 3) ls (va_rf x :: rest))) : W p l e R s m args below meth c H locs (s_nx S - s_nx S0) (s_sl S - s_sl S0) Q (F0 m pc ls (.ref a :: rest)) := by
  have h := hJ.2.1.at (a := a) (by rw [hk]; decide)
  rw [wE_X7 hk] at h
  exact jq_rdf hX h ly_X7 rfl (k := 1) (by decide) hl (by rw [← hx]; rfl) hdg kk
theorem gn_X7_rows {S0 S : wS} {x : Option Nat} {host : String} (hX : jq_X D Y aR A p s m args meth c cc own nm mx rt) (hJ : wJ D Y A s S0 S H locs) (hk : s_K S a = 7) (hx : s_R S 7 a = x) (hl : Cond.fieldLinkNest own index "ScoreHandles$Runner" "rows" "LScoreHandles$Rows;" host ∈ lw_nest) (hdg : decode cc pc = .ok (.getfield index, 3)) (kk : W p l e R s m args below meth c H locs (s_nx S - s_nx S0) (s_sl S - s_sl S0) Q (F0 m (pc + 3) ls (va_rf x :: rest))) : W p l e R s m args below meth c H locs (s_nx S - s_nx S0) (s_sl S - s_sl S0) Q (F0 m pc ls (.ref a :: rest)) := by
  have h := hJ.2.1.at (a := a) (by rw [hk]; decide)
  rw [wE_X7 hk] at h
  exact jq_rdfN hX h ly_X7 rfl (k := 1) (by decide) hl (by rw [← hx]; rfl) hdg kk
theorem pf_X7_rows {S0 S S1 : wS} {v : Nat} (hX : jq_X D Y aR A p s m args meth c cc own nm mx rt) (hJ : wJ D Y A s S0 S H locs) (hk : s_K S a = 7) (hx : s_pR S 7 a (some v) = S1) (hn : nm = "<init>") (ho : (TX7 1).1 = own) (hl : Cond.fieldLink own index "ScoreHandles$Runner" "rows" "LScoreHandles$Rows;" ∈ lw_all) (hdg : decode cc pc = .ok (.putfield index, 3)) (kk : ∀ (H1 : Heap) (locs1 : List Loc), wJ D Y A s S0 S1 H1 locs1 → W p l e R s m args below meth c H1 locs1 (s_nx S1 - s_nx S0) (s_sl S1 - s_sl S0) Q (F0 m (pc + 3) ls rest)) : W p l e R s m args below meth c H locs (s_nx S - s_nx S0) (s_sl S - s_sl S0) Q (F0 m pc ls (.ref v :: .ref a :: rest)) := by
  subst hx
  have h := hJ.2.1.at (a := a) (by rw [hk]; decide)
  rw [wE_X7 hk] at h
  refine jq_wrf hX h ly_X7 tyX7_ok nmX7 rfl (k := 1) (by decide) hl (Or.inr ⟨rfl, hn, ho⟩) (ty := (.object "ScoreHandles$Rows")) (by decide +kernel) rfl rfl (by show _ < _; simp) hJ.2.2 (hJ.2.1.2 a (by rw [hk]; decide)).2 hdg (fun H1 locs1 h1 hz hq hS1 => kk H1 locs1 ⟨hJ.1, hJ.2.1.set (a := a) (by rw [hk]; decide) rfl rfl (fun b hb => wE_pR S 7 a _ hb) ?_ hz hq, hS1⟩)
  rw [wE_X7 (S := s_pR S 7 a _) hk]
  simp only [I_pR, L_pR, R_pR, and_true, if_true, reduceIte, Nat.reduceEqDiff, false_and]
  exact h1
theorem gf_X7_frames {S0 S : wS} {x : Option Nat} (hX : jq_X D Y aR A p s m args meth c cc own nm mx rt) (hJ : wJ D Y A s S0 S H locs) (hk : s_K S a = 7) (hx : s_R S 8 a = x) (hl : Cond.fieldLink own index "ScoreHandles$Runner" "frames" "[J" ∈ lw_all) (hdg : decode cc pc = .ok (.getfield index, 3)) (kk : W p l e R s m args below meth c H locs (s_nx S - s_nx S0) (s_sl S - s_sl S0) Q (F0 m (pc + 3) ls (va_rf x :: rest))) : W p l e R s m args below meth c H locs (s_nx S - s_nx S0) (s_sl S - s_sl S0) Q (F0 m pc ls (.ref a :: rest)) := by
  have h := hJ.2.1.at (a := a) (by rw [hk]; decide)
  rw [wE_X7 hk] at h
  exact jq_rdf hX h ly_X7 rfl (k := 2) (by decide) hl (by rw [← hx]; rfl) hdg kk
theorem gn_X7_frames {S0 S : wS} {x : Option Nat} {host : String} (hX : jq_X D Y aR A p s m args meth c cc own nm mx rt) (hJ : wJ D Y A s S0 S H locs) (hk : s_K S a = 7) (hx : s_R S 8 a = x) (hl : Cond.fieldLinkNest own index "ScoreHandles$Runner" "frames" "[J" host ∈ lw_nest) (hdg : decode cc pc = .ok (.getfield index, 3)) (kk : W p l e R s m args below meth c H locs (s_nx S - s_nx S0) (s_sl S - s_sl S0) Q (F0 m (pc + 3) ls (va_rf x :: rest))) : W p l e R s m args below meth c H locs (s_nx S - s_nx S0) (s_sl S - s_sl S0) Q (F0 m pc ls (.ref a :: rest)) := by
  have h := hJ.2.1.at (a := a) (by rw [hk]; decide)
  rw [wE_X7 hk] at h
  exact jq_rdfN hX h ly_X7 rfl (k := 2) (by decide) hl (by rw [← hx]; rfl) hdg kk
theorem pf_X7_frames {S0 S S1 : wS} {v : Nat} (hX : jq_X D Y aR A p s m args meth c cc own nm mx rt) (hJ : wJ D Y A s S0 S H locs) (hk : s_K S a = 7) (hx : s_pR S 8 a (some v) = S1) (hn : nm = "<init>") (ho : (TX7 2).1 = own) (hl : Cond.fieldLink own index "ScoreHandles$Runner" "frames" "[J" ∈ lw_all) (hdg : decode cc pc = .ok (.putfield index, 3)) (kk : ∀ (H1 : Heap) (locs1 : List Loc), wJ D Y A s S0 S1 H1 locs1 → W p l e R s m args below meth c H1 locs1 (s_nx S1 - s_nx S0) (s_sl S1 - s_sl S0) Q (F0 m (pc + 3) ls rest)) : W p l e R s m args below meth c H locs (s_nx S - s_nx S0) (s_sl S - s_sl S0) Q (F0 m pc ls (.ref v :: .ref a :: rest)) := by
  subst hx
  have h := hJ.2.1.at (a := a) (by rw [hk]; decide)
  rw [wE_X7 hk] at h
  refine jq_wrf hX h ly_X7 tyX7_ok nmX7 rfl (k := 2) (by decide) hl (Or.inr ⟨rfl, hn, ho⟩) (ty := (.array .long)) (by decide +kernel) rfl rfl (by show _ < _; simp) hJ.2.2 (hJ.2.1.2 a (by rw [hk]; decide)).2 hdg (fun H1 locs1 h1 hz hq hS1 => kk H1 locs1 ⟨hJ.1, hJ.2.1.set (a := a) (by rw [hk]; decide) rfl rfl (fun b hb => wE_pR S 8 a _ hb) ?_ hz hq, hS1⟩)
  rw [wE_X7 (S := s_pR S 8 a _) hk]
  simp only [I_pR, L_pR, R_pR, and_true, if_true, reduceIte, Nat.reduceEqDiff, false_and]
  exact h1
theorem gf_X7_steps {S0 S : wS} {x : Int32} (hX : jq_X D Y aR A p s m args meth c cc own nm mx rt) (hJ : wJ D Y A s S0 S H locs) (hk : s_K S a = 7) (hx : s_I S 8 a = x) (hl : Cond.fieldLink own index "ScoreHandles$Runner" "steps" "I" ∈ lw_all) (hdg : decode cc pc = .ok (.getfield index, 3)) (kk : W p l e R s m args below meth c H locs (s_nx S - s_nx S0) (s_sl S - s_sl S0) Q (F0 m (pc + 3) ls (.int x :: rest))) : W p l e R s m args below meth c H locs (s_nx S - s_nx S0) (s_sl S - s_sl S0) Q (F0 m pc ls (.ref a :: rest)) := by
  have h := hJ.2.1.at (a := a) (by rw [hk]; decide)
  rw [wE_X7 hk] at h
  exact jq_rdf hX h ly_X7 rfl (k := 3) (by decide) hl (by rw [← hx]; rfl) hdg kk
theorem gn_X7_steps {S0 S : wS} {x : Int32} {host : String} (hX : jq_X D Y aR A p s m args meth c cc own nm mx rt) (hJ : wJ D Y A s S0 S H locs) (hk : s_K S a = 7) (hx : s_I S 8 a = x) (hl : Cond.fieldLinkNest own index "ScoreHandles$Runner" "steps" "I" host ∈ lw_nest) (hdg : decode cc pc = .ok (.getfield index, 3)) (kk : W p l e R s m args below meth c H locs (s_nx S - s_nx S0) (s_sl S - s_sl S0) Q (F0 m (pc + 3) ls (.int x :: rest))) : W p l e R s m args below meth c H locs (s_nx S - s_nx S0) (s_sl S - s_sl S0) Q (F0 m pc ls (.ref a :: rest)) := by
  have h := hJ.2.1.at (a := a) (by rw [hk]; decide)
  rw [wE_X7 hk] at h
  exact jq_rdfN hX h ly_X7 rfl (k := 3) (by decide) hl (by rw [← hx]; rfl) hdg kk
theorem pf_X7_steps {S0 S S1 : wS} {v : Int32} (hX : jq_X D Y aR A p s m args meth c cc own nm mx rt) (hJ : wJ D Y A s S0 S H locs) (hk : s_K S a = 7) (hx : s_pI S 8 a v = S1) (hl : Cond.fieldLink own index "ScoreHandles$Runner" "steps" "I" ∈ lw_all) (hdg : decode cc pc = .ok (.putfield index, 3)) (kk : ∀ (H1 : Heap) (locs1 : List Loc), wJ D Y A s S0 S1 H1 locs1 → W p l e R s m args below meth c H1 locs1 (s_nx S1 - s_nx S0) (s_sl S1 - s_sl S0) Q (F0 m (pc + 3) ls rest)) : W p l e R s m args below meth c H locs (s_nx S - s_nx S0) (s_sl S - s_sl S0) Q (F0 m pc ls (.int v :: .ref a :: rest)) := by
  subst hx
  have h := hJ.2.1.at (a := a) (by rw [hk]; decide)
  rw [wE_X7 hk] at h
  refine jq_wrf hX h ly_X7 tyX7_ok nmX7 rfl (k := 3) (by decide) hl (Or.inl rfl) (ty := .int) (by decide +kernel) rfl rfl (by show _ < _; simp) hJ.2.2 (hJ.2.1.2 a (by rw [hk]; decide)).2 hdg (fun H1 locs1 h1 hz hq hS1 => kk H1 locs1 ⟨hJ.1, hJ.2.1.set (a := a) (by rw [hk]; decide) rfl rfl (fun b hb => wE_pI S 8 a _ hb) ?_ hz hq, hS1⟩)
  rw [wE_X7 (S := s_pI S 8 a _) hk]
  simp only [I_pI, L_pI, R_pI, and_true, if_true, reduceIte, Nat.reduceEqDiff, false_and]
  exact h1
theorem gf_X7_failures {S0 S : wS} {x : Int32} (hX : jq_X D Y aR A p s m args meth c cc own nm mx rt) (hJ : wJ D Y A s S0 S H locs) (hk : s_K S a = 7) (hx : s_I S 9 a = x) (hl : Cond.fieldLink own index "ScoreHandles$Runner" "failures" "I" ∈ lw_all) (hdg : decode cc pc = .ok (.getfield index, 3)) (kk : W p l e R s m args below meth c H locs (s_nx S - s_nx S0) (s_sl S - s_sl S0) Q (F0 m (pc + 3) ls (.int x :: rest))) : W p l e R s m args below meth c H locs (s_nx S - s_nx S0) (s_sl S - s_sl S0) Q (F0 m pc ls (.ref a :: rest)) := by
  have h := hJ.2.1.at (a := a) (by rw [hk]; decide)
  rw [wE_X7 hk] at h
  exact jq_rdf hX h ly_X7 rfl (k := 4) (by decide) hl (by rw [← hx]; rfl) hdg kk
theorem gn_X7_failures {S0 S : wS} {x : Int32} {host : String} (hX : jq_X D Y aR A p s m args meth c cc own nm mx rt) (hJ : wJ D Y A s S0 S H locs) (hk : s_K S a = 7) (hx : s_I S 9 a = x) (hl : Cond.fieldLinkNest own index "ScoreHandles$Runner" "failures" "I" host ∈ lw_nest) (hdg : decode cc pc = .ok (.getfield index, 3)) (kk : W p l e R s m args below meth c H locs (s_nx S - s_nx S0) (s_sl S - s_sl S0) Q (F0 m (pc + 3) ls (.int x :: rest))) : W p l e R s m args below meth c H locs (s_nx S - s_nx S0) (s_sl S - s_sl S0) Q (F0 m pc ls (.ref a :: rest)) := by
  have h := hJ.2.1.at (a := a) (by rw [hk]; decide)
  rw [wE_X7 hk] at h
  exact jq_rdfN hX h ly_X7 rfl (k := 4) (by decide) hl (by rw [← hx]; rfl) hdg kk
theorem pf_X7_failures {S0 S S1 : wS} {v : Int32} (hX : jq_X D Y aR A p s m args meth c cc own nm mx rt) (hJ : wJ D Y A s S0 S H locs) (hk : s_K S a = 7) (hx : s_pI S 9 a v = S1) (hl : Cond.fieldLink own index "ScoreHandles$Runner" "failures" "I" ∈ lw_all) (hdg : decode cc pc = .ok (.putfield index, 3)) (kk : ∀ (H1 : Heap) (locs1 : List Loc), wJ D Y A s S0 S1 H1 locs1 → W p l e R s m args below meth c H1 locs1 (s_nx S1 - s_nx S0) (s_sl S1 - s_sl S0) Q (F0 m (pc + 3) ls rest)) : W p l e R s m args below meth c H locs (s_nx S - s_nx S0) (s_sl S - s_sl S0) Q (F0 m pc ls (.int v :: .ref a :: rest)) := by
  subst hx
  have h := hJ.2.1.at (a := a) (by rw [hk]; decide)
  rw [wE_X7 hk] at h
  refine jq_wrf hX h ly_X7 tyX7_ok nmX7 rfl (k := 4) (by decide) hl (Or.inl rfl) (ty := .int) (by decide +kernel) rfl rfl (by show _ < _; simp) hJ.2.2 (hJ.2.1.2 a (by rw [hk]; decide)).2 hdg (fun H1 locs1 h1 hz hq hS1 => kk H1 locs1 ⟨hJ.1, hJ.2.1.set (a := a) (by rw [hk]; decide) rfl rfl (fun b hb => wE_pI S 9 a _ hb) ?_ hz hq, hS1⟩)
  rw [wE_X7 (S := s_pI S 9 a _) hk]
  simp only [I_pI, L_pI, R_pI, and_true, if_true, reduceIte, Nat.reduceEqDiff, false_and]
  exact h1
theorem gf_X7_failedLast {S0 S : wS} {x : Int32} (hX : jq_X D Y aR A p s m args meth c cc own nm mx rt) (hJ : wJ D Y A s S0 S H locs) (hk : s_K S a = 7) (hx : s_I S 10 a = x) (hl : Cond.fieldLink own index "ScoreHandles$Runner" "failedLast" "I" ∈ lw_all) (hdg : decode cc pc = .ok (.getfield index, 3)) (kk : W p l e R s m args below meth c H locs (s_nx S - s_nx S0) (s_sl S - s_sl S0) Q (F0 m (pc + 3) ls (.int x :: rest))) : W p l e R s m args below meth c H locs (s_nx S - s_nx S0) (s_sl S - s_sl S0) Q (F0 m pc ls (.ref a :: rest)) := by
  have h := hJ.2.1.at (a := a) (by rw [hk]; decide)
  rw [wE_X7 hk] at h
  exact jq_rdf hX h ly_X7 rfl (k := 5) (by decide) hl (by rw [← hx]; rfl) hdg kk
theorem gn_X7_failedLast {S0 S : wS} {x : Int32} {host : String} (hX : jq_X D Y aR A p s m args meth c cc own nm mx rt) (hJ : wJ D Y A s S0 S H locs) (hk : s_K S a = 7) (hx : s_I S 10 a = x) (hl : Cond.fieldLinkNest own index "ScoreHandles$Runner" "failedLast" "I" host ∈ lw_nest) (hdg : decode cc pc = .ok (.getfield index, 3)) (kk : W p l e R s m args below meth c H locs (s_nx S - s_nx S0) (s_sl S - s_sl S0) Q (F0 m (pc + 3) ls (.int x :: rest))) : W p l e R s m args below meth c H locs (s_nx S - s_nx S0) (s_sl S - s_sl S0) Q (F0 m pc ls (.ref a :: rest)) := by
  have h := hJ.2.1.at (a := a) (by rw [hk]; decide)
  rw [wE_X7 hk] at h
  exact jq_rdfN hX h ly_X7 rfl (k := 5) (by decide) hl (by rw [← hx]; rfl) hdg kk
theorem pf_X7_failedLast {S0 S S1 : wS} {v : Int32} (hX : jq_X D Y aR A p s m args meth c cc own nm mx rt) (hJ : wJ D Y A s S0 S H locs) (hk : s_K S a = 7) (hx : s_pI S 10 a v = S1) (hl : Cond.fieldLink own index "ScoreHandles$Runner" "failedLast" "I" ∈ lw_all) (hdg : decode cc pc = .ok (.putfield index, 3)) (kk : ∀ (H1 : Heap) (locs1 : List Loc), wJ D Y A s S0 S1 H1 locs1 → W p l e R s m args below meth c H1 locs1 (s_nx S1 - s_nx S0) (s_sl S1 - s_sl S0) Q (F0 m (pc + 3) ls rest)) : W p l e R s m args below meth c H locs (s_nx S - s_nx S0) (s_sl S - s_sl S0) Q (F0 m pc ls (.int v :: .ref a :: rest)) := by
  subst hx
  have h := hJ.2.1.at (a := a) (by rw [hk]; decide)
  rw [wE_X7 hk] at h
  refine jq_wrf hX h ly_X7 tyX7_ok nmX7 rfl (k := 5) (by decide) hl (Or.inl rfl) (ty := .int) (by decide +kernel) rfl rfl (by show _ < _; simp) hJ.2.2 (hJ.2.1.2 a (by rw [hk]; decide)).2 hdg (fun H1 locs1 h1 hz hq hS1 => kk H1 locs1 ⟨hJ.1, hJ.2.1.set (a := a) (by rw [hk]; decide) rfl rfl (fun b hb => wE_pI S 10 a _ hb) ?_ hz hq, hS1⟩)
  rw [wE_X7 (S := s_pI S 10 a _) hk]
  simp only [I_pI, L_pI, R_pI, and_true, if_true, reduceIte, Nat.reduceEqDiff, false_and]
  exact h1
theorem gf_X7_failure {S0 S : wS} {x : Int32} (hX : jq_X D Y aR A p s m args meth c cc own nm mx rt) (hJ : wJ D Y A s S0 S H locs) (hk : s_K S a = 7) (hx : s_I S 11 a = x) (hl : Cond.fieldLink own index "ScoreHandles$Runner" "failure" "I" ∈ lw_all) (hdg : decode cc pc = .ok (.getfield index, 3)) (kk : W p l e R s m args below meth c H locs (s_nx S - s_nx S0) (s_sl S - s_sl S0) Q (F0 m (pc + 3) ls (.int x :: rest))) : W p l e R s m args below meth c H locs (s_nx S - s_nx S0) (s_sl S - s_sl S0) Q (F0 m pc ls (.ref a :: rest)) := by
  have h := hJ.2.1.at (a := a) (by rw [hk]; decide)
  rw [wE_X7 hk] at h
  exact jq_rdf hX h ly_X7 rfl (k := 6) (by decide) hl (by rw [← hx]; rfl) hdg kk
theorem gn_X7_failure {S0 S : wS} {x : Int32} {host : String} (hX : jq_X D Y aR A p s m args meth c cc own nm mx rt) (hJ : wJ D Y A s S0 S H locs) (hk : s_K S a = 7) (hx : s_I S 11 a = x) (hl : Cond.fieldLinkNest own index "ScoreHandles$Runner" "failure" "I" host ∈ lw_nest) (hdg : decode cc pc = .ok (.getfield index, 3)) (kk : W p l e R s m args below meth c H locs (s_nx S - s_nx S0) (s_sl S - s_sl S0) Q (F0 m (pc + 3) ls (.int x :: rest))) : W p l e R s m args below meth c H locs (s_nx S - s_nx S0) (s_sl S - s_sl S0) Q (F0 m pc ls (.ref a :: rest)) := by
  have h := hJ.2.1.at (a := a) (by rw [hk]; decide)
  rw [wE_X7 hk] at h
  exact jq_rdfN hX h ly_X7 rfl (k := 6) (by decide) hl (by rw [← hx]; rfl) hdg kk
theorem pf_X7_failure {S0 S S1 : wS} {v : Int32} (hX : jq_X D Y aR A p s m args meth c cc own nm mx rt) (hJ : wJ D Y A s S0 S H locs) (hk : s_K S a = 7) (hx : s_pI S 11 a v = S1) (hl : Cond.fieldLink own index "ScoreHandles$Runner" "failure" "I" ∈ lw_all) (hdg : decode cc pc = .ok (.putfield index, 3)) (kk : ∀ (H1 : Heap) (locs1 : List Loc), wJ D Y A s S0 S1 H1 locs1 → W p l e R s m args below meth c H1 locs1 (s_nx S1 - s_nx S0) (s_sl S1 - s_sl S0) Q (F0 m (pc + 3) ls rest)) : W p l e R s m args below meth c H locs (s_nx S - s_nx S0) (s_sl S - s_sl S0) Q (F0 m pc ls (.int v :: .ref a :: rest)) := by
  subst hx
  have h := hJ.2.1.at (a := a) (by rw [hk]; decide)
  rw [wE_X7 hk] at h
  refine jq_wrf hX h ly_X7 tyX7_ok nmX7 rfl (k := 6) (by decide) hl (Or.inl rfl) (ty := .int) (by decide +kernel) rfl rfl (by show _ < _; simp) hJ.2.2 (hJ.2.1.2 a (by rw [hk]; decide)).2 hdg (fun H1 locs1 h1 hz hq hS1 => kk H1 locs1 ⟨hJ.1, hJ.2.1.set (a := a) (by rw [hk]; decide) rfl rfl (fun b hb => wE_pI S 11 a _ hb) ?_ hz hq, hS1⟩)
  rw [wE_X7 (S := s_pI S 11 a _) hk]
  simp only [I_pI, L_pI, R_pI, and_true, if_true, reduceIte, Nat.reduceEqDiff, false_and]
  exact h1
theorem gf_X9_result {S0 S : wS} {x : Int32} (hX : jq_X D Y aR A p s m args meth c cc own nm mx rt) (hJ : wJ D Y A s S0 S H locs) (hk : s_K S a = 8) (hx : s_I S 12 a = x) (hl : Cond.fieldLink own index "ScoreHandles$Type" "result" "I" ∈ lw_all) (hdg : decode cc pc = .ok (.getfield index, 3)) (kk : W p l e R s m args below meth c H locs (s_nx S - s_nx S0) (s_sl S - s_sl S0) Q (F0 m (pc + 3) ls (.int x :: rest))) : W p l e R s m args below meth c H locs (s_nx S - s_nx S0) (s_sl S - s_sl S0) Q (F0 m pc ls (.ref a :: rest)) := by
  have h := hJ.2.1.at (a := a) (by rw [hk]; decide)
  rw [wE_X9 hk] at h
  exact jq_rdf hX h ly_X9 rfl (k := 0) (by decide) hl (by rw [← hx]; rfl) hdg kk
theorem gn_X9_result {S0 S : wS} {x : Int32} {host : String} (hX : jq_X D Y aR A p s m args meth c cc own nm mx rt) (hJ : wJ D Y A s S0 S H locs) (hk : s_K S a = 8) (hx : s_I S 12 a = x) (hl : Cond.fieldLinkNest own index "ScoreHandles$Type" "result" "I" host ∈ lw_nest) (hdg : decode cc pc = .ok (.getfield index, 3)) (kk : W p l e R s m args below meth c H locs (s_nx S - s_nx S0) (s_sl S - s_sl S0) Q (F0 m (pc + 3) ls (.int x :: rest))) : W p l e R s m args below meth c H locs (s_nx S - s_nx S0) (s_sl S - s_sl S0) Q (F0 m pc ls (.ref a :: rest)) := by
  have h := hJ.2.1.at (a := a) (by rw [hk]; decide)
  rw [wE_X9 hk] at h
  exact jq_rdfN hX h ly_X9 rfl (k := 0) (by decide) hl (by rw [← hx]; rfl) hdg kk
theorem pf_X9_result {S0 S S1 : wS} {v : Int32} (hX : jq_X D Y aR A p s m args meth c cc own nm mx rt) (hJ : wJ D Y A s S0 S H locs) (hk : s_K S a = 8) (hx : s_pI S 12 a v = S1) (hn : nm = "<init>") (ho : (TX9 0).1 = own) (hl : Cond.fieldLink own index "ScoreHandles$Type" "result" "I" ∈ lw_all) (hdg : decode cc pc = .ok (.putfield index, 3)) (kk : ∀ (H1 : Heap) (locs1 : List Loc), wJ D Y A s S0 S1 H1 locs1 → W p l e R s m args below meth c H1 locs1 (s_nx S1 - s_nx S0) (s_sl S1 - s_sl S0) Q (F0 m (pc + 3) ls rest)) : W p l e R s m args below meth c H locs (s_nx S - s_nx S0) (s_sl S - s_sl S0) Q (F0 m pc ls (.int v :: .ref a :: rest)) := by
  subst hx
  have h := hJ.2.1.at (a := a) (by rw [hk]; decide)
  rw [wE_X9 hk] at h
  refine jq_wrf hX h ly_X9 tyX9_ok nmX9 rfl (k := 0) (by decide) hl (Or.inr ⟨rfl, hn, ho⟩) (ty := .int) (by decide +kernel) rfl rfl (by show _ < _; simp) hJ.2.2 (hJ.2.1.2 a (by rw [hk]; decide)).2 hdg (fun H1 locs1 h1 hz hq hS1 => kk H1 locs1 ⟨hJ.1, hJ.2.1.set (a := a) (by rw [hk]; decide) rfl rfl (fun b hb => wE_pI S 12 a _ hb) ?_ hz hq, hS1⟩)
  rw [wE_X9 (S := s_pI S 12 a _) hk]
  simp only [I_pI, L_pI, R_pI, and_true, if_true, reduceIte, Nat.reduceEqDiff, false_and]
  exact h1
theorem gf_X9_many {S0 S : wS} {x : Int32} (hX : jq_X D Y aR A p s m args meth c cc own nm mx rt) (hJ : wJ D Y A s S0 S H locs) (hk : s_K S a = 8) (hx : s_I S 13 a = x) (hl : Cond.fieldLink own index "ScoreHandles$Type" "many" "I" ∈ lw_all) (hdg : decode cc pc = .ok (.getfield index, 3)) (kk : W p l e R s m args below meth c H locs (s_nx S - s_nx S0) (s_sl S - s_sl S0) Q (F0 m (pc + 3) ls (.int x :: rest))) : W p l e R s m args below meth c H locs (s_nx S - s_nx S0) (s_sl S - s_sl S0) Q (F0 m pc ls (.ref a :: rest)) := by
  have h := hJ.2.1.at (a := a) (by rw [hk]; decide)
  rw [wE_X9 hk] at h
  exact jq_rdf hX h ly_X9 rfl (k := 1) (by decide) hl (by rw [← hx]; rfl) hdg kk
theorem gn_X9_many {S0 S : wS} {x : Int32} {host : String} (hX : jq_X D Y aR A p s m args meth c cc own nm mx rt) (hJ : wJ D Y A s S0 S H locs) (hk : s_K S a = 8) (hx : s_I S 13 a = x) (hl : Cond.fieldLinkNest own index "ScoreHandles$Type" "many" "I" host ∈ lw_nest) (hdg : decode cc pc = .ok (.getfield index, 3)) (kk : W p l e R s m args below meth c H locs (s_nx S - s_nx S0) (s_sl S - s_sl S0) Q (F0 m (pc + 3) ls (.int x :: rest))) : W p l e R s m args below meth c H locs (s_nx S - s_nx S0) (s_sl S - s_sl S0) Q (F0 m pc ls (.ref a :: rest)) := by
  have h := hJ.2.1.at (a := a) (by rw [hk]; decide)
  rw [wE_X9 hk] at h
  exact jq_rdfN hX h ly_X9 rfl (k := 1) (by decide) hl (by rw [← hx]; rfl) hdg kk
theorem pf_X9_many {S0 S S1 : wS} {v : Int32} (hX : jq_X D Y aR A p s m args meth c cc own nm mx rt) (hJ : wJ D Y A s S0 S H locs) (hk : s_K S a = 8) (hx : s_pI S 13 a v = S1) (hn : nm = "<init>") (ho : (TX9 1).1 = own) (hl : Cond.fieldLink own index "ScoreHandles$Type" "many" "I" ∈ lw_all) (hdg : decode cc pc = .ok (.putfield index, 3)) (kk : ∀ (H1 : Heap) (locs1 : List Loc), wJ D Y A s S0 S1 H1 locs1 → W p l e R s m args below meth c H1 locs1 (s_nx S1 - s_nx S0) (s_sl S1 - s_sl S0) Q (F0 m (pc + 3) ls rest)) : W p l e R s m args below meth c H locs (s_nx S - s_nx S0) (s_sl S - s_sl S0) Q (F0 m pc ls (.int v :: .ref a :: rest)) := by
  subst hx
  have h := hJ.2.1.at (a := a) (by rw [hk]; decide)
  rw [wE_X9 hk] at h
  refine jq_wrf hX h ly_X9 tyX9_ok nmX9 rfl (k := 1) (by decide) hl (Or.inr ⟨rfl, hn, ho⟩) (ty := .int) (by decide +kernel) rfl rfl (by show _ < _; simp) hJ.2.2 (hJ.2.1.2 a (by rw [hk]; decide)).2 hdg (fun H1 locs1 h1 hz hq hS1 => kk H1 locs1 ⟨hJ.1, hJ.2.1.set (a := a) (by rw [hk]; decide) rfl rfl (fun b hb => wE_pI S 13 a _ hb) ?_ hz hq, hS1⟩)
  rw [wE_X9 (S := s_pI S 13 a _) hk]
  simp only [I_pI, L_pI, R_pI, and_true, if_true, reduceIte, Nat.reduceEqDiff, false_and]
  exact h1
theorem gf_X9_kinds {S0 S : wS} {x : Option Nat} (hX : jq_X D Y aR A p s m args meth c cc own nm mx rt) (hJ : wJ D Y A s S0 S H locs) (hk : s_K S a = 8) (hx : s_R S 9 a = x) (hl : Cond.fieldLink own index "ScoreHandles$Type" "kinds" "[I" ∈ lw_all) (hdg : decode cc pc = .ok (.getfield index, 3)) (kk : W p l e R s m args below meth c H locs (s_nx S - s_nx S0) (s_sl S - s_sl S0) Q (F0 m (pc + 3) ls (va_rf x :: rest))) : W p l e R s m args below meth c H locs (s_nx S - s_nx S0) (s_sl S - s_sl S0) Q (F0 m pc ls (.ref a :: rest)) := by
  have h := hJ.2.1.at (a := a) (by rw [hk]; decide)
  rw [wE_X9 hk] at h
  exact jq_rdf hX h ly_X9 rfl (k := 2) (by decide) hl (by rw [← hx]; rfl) hdg kk
theorem gn_X9_kinds {S0 S : wS} {x : Option Nat} {host : String} (hX : jq_X D Y aR A p s m args meth c cc own nm mx rt) (hJ : wJ D Y A s S0 S H locs) (hk : s_K S a = 8) (hx : s_R S 9 a = x) (hl : Cond.fieldLinkNest own index "ScoreHandles$Type" "kinds" "[I" host ∈ lw_nest) (hdg : decode cc pc = .ok (.getfield index, 3)) (kk : W p l e R s m args below meth c H locs (s_nx S - s_nx S0) (s_sl S - s_sl S0) Q (F0 m (pc + 3) ls (va_rf x :: rest))) : W p l e R s m args below meth c H locs (s_nx S - s_nx S0) (s_sl S - s_sl S0) Q (F0 m pc ls (.ref a :: rest)) := by
  have h := hJ.2.1.at (a := a) (by rw [hk]; decide)
  rw [wE_X9 hk] at h
  exact jq_rdfN hX h ly_X9 rfl (k := 2) (by decide) hl (by rw [← hx]; rfl) hdg kk
theorem pf_X9_kinds {S0 S S1 : wS} {v : Nat} (hX : jq_X D Y aR A p s m args meth c cc own nm mx rt) (hJ : wJ D Y A s S0 S H locs) (hk : s_K S a = 8) (hx : s_pR S 9 a (some v) = S1) (hn : nm = "<init>") (ho : (TX9 2).1 = own) (hl : Cond.fieldLink own index "ScoreHandles$Type" "kinds" "[I" ∈ lw_all) (hdg : decode cc pc = .ok (.putfield index, 3)) (kk : ∀ (H1 : Heap) (locs1 : List Loc), wJ D Y A s S0 S1 H1 locs1 → W p l e R s m args below meth c H1 locs1 (s_nx S1 - s_nx S0) (s_sl S1 - s_sl S0) Q (F0 m (pc + 3) ls rest)) : W p l e R s m args below meth c H locs (s_nx S - s_nx S0) (s_sl S - s_sl S0) Q (F0 m pc ls (.ref v :: .ref a :: rest)) := by
  subst hx
  have h := hJ.2.1.at (a := a) (by rw [hk]; decide)
  rw [wE_X9 hk] at h
  refine jq_wrf hX h ly_X9 tyX9_ok nmX9 rfl (k := 2) (by decide) hl (Or.inr ⟨rfl, hn, ho⟩) (ty := (.array .int)) (by decide +kernel) rfl rfl (by show _ < _; simp) hJ.2.2 (hJ.2.1.2 a (by rw [hk]; decide)).2 hdg (fun H1 locs1 h1 hz hq hS1 => kk H1 locs1 ⟨hJ.1, hJ.2.1.set (a := a) (by rw [hk]; decide) rfl rfl (fun b hb => wE_pR S 9 a _ hb) ?_ hz hq, hS1⟩)
  rw [wE_X9 (S := s_pR S 9 a _) hk]
  simp only [I_pR, L_pR, R_pR, and_true, if_true, reduceIte, Nat.reduceEqDiff, false_and]
  exact h1
theorem gf_X10_rows {S0 S : wS} {x : Option Nat} (hX : jq_X D Y aR A p s m args meth c cc own nm mx rt) (hJ : wJ D Y A s S0 S H locs) (hk : s_K S a = 9) (hx : s_R S 10 a = x) (hl : Cond.fieldLink own index "ScoreHandles" "rows" "LScoreHandles$Rows;" ∈ lw_all) (hdg : decode cc pc = .ok (.getfield index, 3)) (kk : W p l e R s m args below meth c H locs (s_nx S - s_nx S0) (s_sl S - s_sl S0) Q (F0 m (pc + 3) ls (va_rf x :: rest))) : W p l e R s m args below meth c H locs (s_nx S - s_nx S0) (s_sl S - s_sl S0) Q (F0 m pc ls (.ref a :: rest)) := by
  have h := hJ.2.1.at (a := a) (by rw [hk]; decide)
  rw [wE_X10 hk] at h
  exact jq_rdf hX h ly_X10 rfl (k := 0) (by decide) hl (by rw [← hx]; rfl) hdg kk
theorem pf_X10_rows {S0 S S1 : wS} {v : Nat} (hX : jq_X D Y aR A p s m args meth c cc own nm mx rt) (hJ : wJ D Y A s S0 S H locs) (hk : s_K S a = 9) (hx : s_pR S 10 a (some v) = S1) (hn : nm = "<init>") (ho : (TX10 0).1 = own) (hl : Cond.fieldLink own index "ScoreHandles" "rows" "LScoreHandles$Rows;" ∈ lw_all) (hdg : decode cc pc = .ok (.putfield index, 3)) (kk : ∀ (H1 : Heap) (locs1 : List Loc), wJ D Y A s S0 S1 H1 locs1 → W p l e R s m args below meth c H1 locs1 (s_nx S1 - s_nx S0) (s_sl S1 - s_sl S0) Q (F0 m (pc + 3) ls rest)) : W p l e R s m args below meth c H locs (s_nx S - s_nx S0) (s_sl S - s_sl S0) Q (F0 m pc ls (.ref v :: .ref a :: rest)) := by
  subst hx
  have h := hJ.2.1.at (a := a) (by rw [hk]; decide)
  rw [wE_X10 hk] at h
  refine jq_wrf hX h ly_X10 tyX10_ok nmX10 rfl (k := 0) (by decide) hl (Or.inr ⟨rfl, hn, ho⟩) (ty := (.object "ScoreHandles$Rows")) (by decide +kernel) rfl rfl (by show _ < _; simp) hJ.2.2 (hJ.2.1.2 a (by rw [hk]; decide)).2 hdg (fun H1 locs1 h1 hz hq hS1 => kk H1 locs1 ⟨hJ.1, hJ.2.1.set (a := a) (by rw [hk]; decide) rfl rfl (fun b hb => wE_pR S 10 a _ hb) ?_ hz hq, hS1⟩)
  rw [wE_X10 (S := s_pR S 10 a _) hk]
  simp only [I_pR, L_pR, R_pR, and_true, if_true, reduceIte, Nat.reduceEqDiff, false_and]
  exact h1
theorem gf_X10_handles {S0 S : wS} {x : Option Nat} (hX : jq_X D Y aR A p s m args meth c cc own nm mx rt) (hJ : wJ D Y A s S0 S H locs) (hk : s_K S a = 9) (hx : s_R S 11 a = x) (hl : Cond.fieldLink own index "ScoreHandles" "handles" "LScoreHandles$Handles;" ∈ lw_all) (hdg : decode cc pc = .ok (.getfield index, 3)) (kk : W p l e R s m args below meth c H locs (s_nx S - s_nx S0) (s_sl S - s_sl S0) Q (F0 m (pc + 3) ls (va_rf x :: rest))) : W p l e R s m args below meth c H locs (s_nx S - s_nx S0) (s_sl S - s_sl S0) Q (F0 m pc ls (.ref a :: rest)) := by
  have h := hJ.2.1.at (a := a) (by rw [hk]; decide)
  rw [wE_X10 hk] at h
  exact jq_rdf hX h ly_X10 rfl (k := 1) (by decide) hl (by rw [← hx]; rfl) hdg kk
theorem pf_X10_handles {S0 S S1 : wS} {v : Nat} (hX : jq_X D Y aR A p s m args meth c cc own nm mx rt) (hJ : wJ D Y A s S0 S H locs) (hk : s_K S a = 9) (hx : s_pR S 11 a (some v) = S1) (hn : nm = "<init>") (ho : (TX10 1).1 = own) (hl : Cond.fieldLink own index "ScoreHandles" "handles" "LScoreHandles$Handles;" ∈ lw_all) (hdg : decode cc pc = .ok (.putfield index, 3)) (kk : ∀ (H1 : Heap) (locs1 : List Loc), wJ D Y A s S0 S1 H1 locs1 → W p l e R s m args below meth c H1 locs1 (s_nx S1 - s_nx S0) (s_sl S1 - s_sl S0) Q (F0 m (pc + 3) ls rest)) : W p l e R s m args below meth c H locs (s_nx S - s_nx S0) (s_sl S - s_sl S0) Q (F0 m pc ls (.ref v :: .ref a :: rest)) := by
  subst hx
  have h := hJ.2.1.at (a := a) (by rw [hk]; decide)
  rw [wE_X10 hk] at h
  refine jq_wrf hX h ly_X10 tyX10_ok nmX10 rfl (k := 1) (by decide) hl (Or.inr ⟨rfl, hn, ho⟩) (ty := (.object "ScoreHandles$Handles")) (by decide +kernel) rfl rfl (by show _ < _; simp) hJ.2.2 (hJ.2.1.2 a (by rw [hk]; decide)).2 hdg (fun H1 locs1 h1 hz hq hS1 => kk H1 locs1 ⟨hJ.1, hJ.2.1.set (a := a) (by rw [hk]; decide) rfl rfl (fun b hb => wE_pR S 11 a _ hb) ?_ hz hq, hS1⟩)
  rw [wE_X10 (S := s_pR S 11 a _) hk]
  simp only [I_pR, L_pR, R_pR, and_true, if_true, reduceIte, Nat.reduceEqDiff, false_and]
  exact h1
theorem gf_X10_maker {S0 S : wS} {x : Option Nat} (hX : jq_X D Y aR A p s m args meth c cc own nm mx rt) (hJ : wJ D Y A s S0 S H locs) (hk : s_K S a = 9) (hx : s_R S 12 a = x) (hl : Cond.fieldLink own index "ScoreHandles" "maker" "LScoreHandles$Maker;" ∈ lw_all) (hdg : decode cc pc = .ok (.getfield index, 3)) (kk : W p l e R s m args below meth c H locs (s_nx S - s_nx S0) (s_sl S - s_sl S0) Q (F0 m (pc + 3) ls (va_rf x :: rest))) : W p l e R s m args below meth c H locs (s_nx S - s_nx S0) (s_sl S - s_sl S0) Q (F0 m pc ls (.ref a :: rest)) := by
  have h := hJ.2.1.at (a := a) (by rw [hk]; decide)
  rw [wE_X10 hk] at h
  exact jq_rdf hX h ly_X10 rfl (k := 2) (by decide) hl (by rw [← hx]; rfl) hdg kk
theorem pf_X10_maker {S0 S S1 : wS} {v : Nat} (hX : jq_X D Y aR A p s m args meth c cc own nm mx rt) (hJ : wJ D Y A s S0 S H locs) (hk : s_K S a = 9) (hx : s_pR S 12 a (some v) = S1) (hn : nm = "<init>") (ho : (TX10 2).1 = own) (hl : Cond.fieldLink own index "ScoreHandles" "maker" "LScoreHandles$Maker;" ∈ lw_all) (hdg : decode cc pc = .ok (.putfield index, 3)) (kk : ∀ (H1 : Heap) (locs1 : List Loc), wJ D Y A s S0 S1 H1 locs1 → W p l e R s m args below meth c H1 locs1 (s_nx S1 - s_nx S0) (s_sl S1 - s_sl S0) Q (F0 m (pc + 3) ls rest)) : W p l e R s m args below meth c H locs (s_nx S - s_nx S0) (s_sl S - s_sl S0) Q (F0 m pc ls (.ref v :: .ref a :: rest)) := by
  subst hx
  have h := hJ.2.1.at (a := a) (by rw [hk]; decide)
  rw [wE_X10 hk] at h
  refine jq_wrf hX h ly_X10 tyX10_ok nmX10 rfl (k := 2) (by decide) hl (Or.inr ⟨rfl, hn, ho⟩) (ty := (.object "ScoreHandles$Maker")) (by decide +kernel) rfl rfl (by show _ < _; simp) hJ.2.2 (hJ.2.1.2 a (by rw [hk]; decide)).2 hdg (fun H1 locs1 h1 hz hq hS1 => kk H1 locs1 ⟨hJ.1, hJ.2.1.set (a := a) (by rw [hk]; decide) rfl rfl (fun b hb => wE_pR S 12 a _ hb) ?_ hz hq, hS1⟩)
  rw [wE_X10 (S := s_pR S 12 a _) hk]
  simp only [I_pR, L_pR, R_pR, and_true, if_true, reduceIte, Nat.reduceEqDiff, false_and]
  exact h1
theorem gf_X10_runner {S0 S : wS} {x : Option Nat} (hX : jq_X D Y aR A p s m args meth c cc own nm mx rt) (hJ : wJ D Y A s S0 S H locs) (hk : s_K S a = 9) (hx : s_R S 13 a = x) (hl : Cond.fieldLink own index "ScoreHandles" "runner" "LScoreHandles$Runner;" ∈ lw_all) (hdg : decode cc pc = .ok (.getfield index, 3)) (kk : W p l e R s m args below meth c H locs (s_nx S - s_nx S0) (s_sl S - s_sl S0) Q (F0 m (pc + 3) ls (va_rf x :: rest))) : W p l e R s m args below meth c H locs (s_nx S - s_nx S0) (s_sl S - s_sl S0) Q (F0 m pc ls (.ref a :: rest)) := by
  have h := hJ.2.1.at (a := a) (by rw [hk]; decide)
  rw [wE_X10 hk] at h
  exact jq_rdf hX h ly_X10 rfl (k := 3) (by decide) hl (by rw [← hx]; rfl) hdg kk
theorem pf_X10_runner {S0 S S1 : wS} {v : Nat} (hX : jq_X D Y aR A p s m args meth c cc own nm mx rt) (hJ : wJ D Y A s S0 S H locs) (hk : s_K S a = 9) (hx : s_pR S 13 a (some v) = S1) (hn : nm = "<init>") (ho : (TX10 3).1 = own) (hl : Cond.fieldLink own index "ScoreHandles" "runner" "LScoreHandles$Runner;" ∈ lw_all) (hdg : decode cc pc = .ok (.putfield index, 3)) (kk : ∀ (H1 : Heap) (locs1 : List Loc), wJ D Y A s S0 S1 H1 locs1 → W p l e R s m args below meth c H1 locs1 (s_nx S1 - s_nx S0) (s_sl S1 - s_sl S0) Q (F0 m (pc + 3) ls rest)) : W p l e R s m args below meth c H locs (s_nx S - s_nx S0) (s_sl S - s_sl S0) Q (F0 m pc ls (.ref v :: .ref a :: rest)) := by
  subst hx
  have h := hJ.2.1.at (a := a) (by rw [hk]; decide)
  rw [wE_X10 hk] at h
  refine jq_wrf hX h ly_X10 tyX10_ok nmX10 rfl (k := 3) (by decide) hl (Or.inr ⟨rfl, hn, ho⟩) (ty := (.object "ScoreHandles$Runner")) (by decide +kernel) rfl rfl (by show _ < _; simp) hJ.2.2 (hJ.2.1.2 a (by rw [hk]; decide)).2 hdg (fun H1 locs1 h1 hz hq hS1 => kk H1 locs1 ⟨hJ.1, hJ.2.1.set (a := a) (by rw [hk]; decide) rfl rfl (fun b hb => wE_pR S 13 a _ hb) ?_ hz hq, hS1⟩)
  rw [wE_X10 (S := s_pR S 13 a _) hk]
  simp only [I_pR, L_pR, R_pR, and_true, if_true, reduceIte, Nat.reduceEqDiff, false_and]
  exact h1
theorem gf_X10_numbers {S0 S : wS} {x : Option Nat} (hX : jq_X D Y aR A p s m args meth c cc own nm mx rt) (hJ : wJ D Y A s S0 S H locs) (hk : s_K S a = 9) (hx : s_R S 14 a = x) (hl : Cond.fieldLink own index "ScoreHandles" "numbers" "[J" ∈ lw_all) (hdg : decode cc pc = .ok (.getfield index, 3)) (kk : W p l e R s m args below meth c H locs (s_nx S - s_nx S0) (s_sl S - s_sl S0) Q (F0 m (pc + 3) ls (va_rf x :: rest))) : W p l e R s m args below meth c H locs (s_nx S - s_nx S0) (s_sl S - s_sl S0) Q (F0 m pc ls (.ref a :: rest)) := by
  have h := hJ.2.1.at (a := a) (by rw [hk]; decide)
  rw [wE_X10 hk] at h
  exact jq_rdf hX h ly_X10 rfl (k := 4) (by decide) hl (by rw [← hx]; rfl) hdg kk
theorem pf_X10_numbers {S0 S S1 : wS} {v : Nat} (hX : jq_X D Y aR A p s m args meth c cc own nm mx rt) (hJ : wJ D Y A s S0 S H locs) (hk : s_K S a = 9) (hx : s_pR S 14 a (some v) = S1) (hn : nm = "<init>") (ho : (TX10 4).1 = own) (hl : Cond.fieldLink own index "ScoreHandles" "numbers" "[J" ∈ lw_all) (hdg : decode cc pc = .ok (.putfield index, 3)) (kk : ∀ (H1 : Heap) (locs1 : List Loc), wJ D Y A s S0 S1 H1 locs1 → W p l e R s m args below meth c H1 locs1 (s_nx S1 - s_nx S0) (s_sl S1 - s_sl S0) Q (F0 m (pc + 3) ls rest)) : W p l e R s m args below meth c H locs (s_nx S - s_nx S0) (s_sl S - s_sl S0) Q (F0 m pc ls (.ref v :: .ref a :: rest)) := by
  subst hx
  have h := hJ.2.1.at (a := a) (by rw [hk]; decide)
  rw [wE_X10 hk] at h
  refine jq_wrf hX h ly_X10 tyX10_ok nmX10 rfl (k := 4) (by decide) hl (Or.inr ⟨rfl, hn, ho⟩) (ty := (.array .long)) (by decide +kernel) rfl rfl (by show _ < _; simp) hJ.2.2 (hJ.2.1.2 a (by rw [hk]; decide)).2 hdg (fun H1 locs1 h1 hz hq hS1 => kk H1 locs1 ⟨hJ.1, hJ.2.1.set (a := a) (by rw [hk]; decide) rfl rfl (fun b hb => wE_pR S 14 a _ hb) ?_ hz hq, hS1⟩)
  rw [wE_X10 (S := s_pR S 14 a _) hk]
  simp only [I_pR, L_pR, R_pR, and_true, if_true, reduceIte, Nat.reduceEqDiff, false_and]
  exact h1
theorem gf_X10_atHand {S0 S : wS} {x : Option Nat} (hX : jq_X D Y aR A p s m args meth c cc own nm mx rt) (hJ : wJ D Y A s S0 S H locs) (hk : s_K S a = 9) (hx : s_R S 15 a = x) (hl : Cond.fieldLink own index "ScoreHandles" "atHand" "LScoreHandles$Type;" ∈ lw_all) (hdg : decode cc pc = .ok (.getfield index, 3)) (kk : W p l e R s m args below meth c H locs (s_nx S - s_nx S0) (s_sl S - s_sl S0) Q (F0 m (pc + 3) ls (va_rf x :: rest))) : W p l e R s m args below meth c H locs (s_nx S - s_nx S0) (s_sl S - s_sl S0) Q (F0 m pc ls (.ref a :: rest)) := by
  have h := hJ.2.1.at (a := a) (by rw [hk]; decide)
  rw [wE_X10 hk] at h
  exact jq_rdf hX h ly_X10 rfl (k := 5) (by decide) hl (by rw [← hx]; rfl) hdg kk
theorem pf_X10_atHand {S0 S S1 : wS} {v : Nat} (hX : jq_X D Y aR A p s m args meth c cc own nm mx rt) (hJ : wJ D Y A s S0 S H locs) (hk : s_K S a = 9) (hx : s_pR S 15 a (some v) = S1) (hl : Cond.fieldLink own index "ScoreHandles" "atHand" "LScoreHandles$Type;" ∈ lw_all) (hdg : decode cc pc = .ok (.putfield index, 3)) (kk : ∀ (H1 : Heap) (locs1 : List Loc), wJ D Y A s S0 S1 H1 locs1 → W p l e R s m args below meth c H1 locs1 (s_nx S1 - s_nx S0) (s_sl S1 - s_sl S0) Q (F0 m (pc + 3) ls rest)) : W p l e R s m args below meth c H locs (s_nx S - s_nx S0) (s_sl S - s_sl S0) Q (F0 m pc ls (.ref v :: .ref a :: rest)) := by
  subst hx
  have h := hJ.2.1.at (a := a) (by rw [hk]; decide)
  rw [wE_X10 hk] at h
  refine jq_wrf hX h ly_X10 tyX10_ok nmX10 rfl (k := 5) (by decide) hl (Or.inl rfl) (ty := (.object "ScoreHandles$Type")) (by decide +kernel) rfl rfl (by show _ < _; simp) hJ.2.2 (hJ.2.1.2 a (by rw [hk]; decide)).2 hdg (fun H1 locs1 h1 hz hq hS1 => kk H1 locs1 ⟨hJ.1, hJ.2.1.set (a := a) (by rw [hk]; decide) rfl rfl (fun b hb => wE_pR S 15 a _ hb) ?_ hz hq, hS1⟩)
  rw [wE_X10 (S := s_pR S 15 a _) hk]
  simp only [I_pR, L_pR, R_pR, and_true, if_true, reduceIte, Nat.reduceEqDiff, false_and]
  exact h1
theorem gf_X10_result {S0 S : wS} {x : Int64} (hX : jq_X D Y aR A p s m args meth c cc own nm mx rt) (hJ : wJ D Y A s S0 S H locs) (hk : s_K S a = 9) (hx : s_L S 1 a = x) (hl : Cond.fieldLink own index "ScoreHandles" "result" "J" ∈ lw_all) (hdg : decode cc pc = .ok (.getfield index, 3)) (kk : W p l e R s m args below meth c H locs (s_nx S - s_nx S0) (s_sl S - s_sl S0) Q (F0 m (pc + 3) ls (.long x :: rest))) : W p l e R s m args below meth c H locs (s_nx S - s_nx S0) (s_sl S - s_sl S0) Q (F0 m pc ls (.ref a :: rest)) := by
  have h := hJ.2.1.at (a := a) (by rw [hk]; decide)
  rw [wE_X10 hk] at h
  exact jq_rdf hX h ly_X10 rfl (k := 6) (by decide) hl (by rw [← hx]; rfl) hdg kk
theorem pf_X10_result {S0 S S1 : wS} {v : Int64} (hX : jq_X D Y aR A p s m args meth c cc own nm mx rt) (hJ : wJ D Y A s S0 S H locs) (hk : s_K S a = 9) (hx : s_pL S 1 a v = S1) (hl : Cond.fieldLink own index "ScoreHandles" "result" "J" ∈ lw_all) (hdg : decode cc pc = .ok (.putfield index, 3)) (kk : ∀ (H1 : Heap) (locs1 : List Loc), wJ D Y A s S0 S1 H1 locs1 → W p l e R s m args below meth c H1 locs1 (s_nx S1 - s_nx S0) (s_sl S1 - s_sl S0) Q (F0 m (pc + 3) ls rest)) : W p l e R s m args below meth c H locs (s_nx S - s_nx S0) (s_sl S - s_sl S0) Q (F0 m pc ls (.long v :: .ref a :: rest)) := by
  subst hx
  have h := hJ.2.1.at (a := a) (by rw [hk]; decide)
  rw [wE_X10 hk] at h
  refine jq_wrf hX h ly_X10 tyX10_ok nmX10 rfl (k := 6) (by decide) hl (Or.inl rfl) (ty := .long) (by decide +kernel) rfl rfl (by show _ < _; simp) hJ.2.2 (hJ.2.1.2 a (by rw [hk]; decide)).2 hdg (fun H1 locs1 h1 hz hq hS1 => kk H1 locs1 ⟨hJ.1, hJ.2.1.set (a := a) (by rw [hk]; decide) rfl rfl (fun b hb => wE_pL S 1 a _ hb) ?_ hz hq, hS1⟩)
  rw [wE_X10 (S := s_pL S 1 a _) hk]
  simp only [I_pL, L_pL, R_pL, and_true, if_true, reduceIte, Nat.reduceEqDiff, false_and]
  exact h1
theorem gf_X10_runs {S0 S : wS} {x : Int32} (hX : jq_X D Y aR A p s m args meth c cc own nm mx rt) (hJ : wJ D Y A s S0 S H locs) (hk : s_K S a = 9) (hx : s_I S 14 a = x) (hl : Cond.fieldLink own index "ScoreHandles" "runs" "I" ∈ lw_all) (hdg : decode cc pc = .ok (.getfield index, 3)) (kk : W p l e R s m args below meth c H locs (s_nx S - s_nx S0) (s_sl S - s_sl S0) Q (F0 m (pc + 3) ls (.int x :: rest))) : W p l e R s m args below meth c H locs (s_nx S - s_nx S0) (s_sl S - s_sl S0) Q (F0 m pc ls (.ref a :: rest)) := by
  have h := hJ.2.1.at (a := a) (by rw [hk]; decide)
  rw [wE_X10 hk] at h
  exact jq_rdf hX h ly_X10 rfl (k := 7) (by decide) hl (by rw [← hx]; rfl) hdg kk
theorem pf_X10_runs {S0 S S1 : wS} {v : Int32} (hX : jq_X D Y aR A p s m args meth c cc own nm mx rt) (hJ : wJ D Y A s S0 S H locs) (hk : s_K S a = 9) (hx : s_pI S 14 a v = S1) (hl : Cond.fieldLink own index "ScoreHandles" "runs" "I" ∈ lw_all) (hdg : decode cc pc = .ok (.putfield index, 3)) (kk : ∀ (H1 : Heap) (locs1 : List Loc), wJ D Y A s S0 S1 H1 locs1 → W p l e R s m args below meth c H1 locs1 (s_nx S1 - s_nx S0) (s_sl S1 - s_sl S0) Q (F0 m (pc + 3) ls rest)) : W p l e R s m args below meth c H locs (s_nx S - s_nx S0) (s_sl S - s_sl S0) Q (F0 m pc ls (.int v :: .ref a :: rest)) := by
  subst hx
  have h := hJ.2.1.at (a := a) (by rw [hk]; decide)
  rw [wE_X10 hk] at h
  refine jq_wrf hX h ly_X10 tyX10_ok nmX10 rfl (k := 7) (by decide) hl (Or.inl rfl) (ty := .int) (by decide +kernel) rfl rfl (by show _ < _; simp) hJ.2.2 (hJ.2.1.2 a (by rw [hk]; decide)).2 hdg (fun H1 locs1 h1 hz hq hS1 => kk H1 locs1 ⟨hJ.1, hJ.2.1.set (a := a) (by rw [hk]; decide) rfl rfl (fun b hb => wE_pI S 14 a _ hb) ?_ hz hq, hS1⟩)
  rw [wE_X10 (S := s_pI S 14 a _) hk]
  simp only [I_pI, L_pI, R_pI, and_true, if_true, reduceIte, Nat.reduceEqDiff, false_and]
  exact h1
theorem pf_X11_rows {S0 S S1 : wS} {v : Int32} (hX : jq_X D Y aR A p s m args meth c cc own nm mx rt) (hJ : wJ D Y A s S0 S H locs) (hk : s_K S a = 10) (hx : s_pI S 15 a v = S1) (hl : Cond.fieldLink own index "ScoreHandlesModel" "rows" "I" ∈ lw_all) (hdg : decode cc pc = .ok (.putfield index, 3)) (kk : ∀ (H1 : Heap) (locs1 : List Loc), wJ D Y A s S0 S1 H1 locs1 → W p l e R s m args below meth c H1 locs1 (s_nx S1 - s_nx S0) (s_sl S1 - s_sl S0) Q (F0 m (pc + 3) ls rest)) : W p l e R s m args below meth c H locs (s_nx S - s_nx S0) (s_sl S - s_sl S0) Q (F0 m pc ls (.int v :: .ref a :: rest)) := by
  subst hx
  have h := hJ.2.1.at (a := a) (by rw [hk]; decide)
  rw [wE_X11 hk] at h
  refine jq_wrf hX h ly_X11 tyX11_ok nmX11 rfl (k := 0) (by decide) hl (Or.inl rfl) (ty := .int) (by decide +kernel) rfl rfl (by show _ < _; simp) hJ.2.2 (hJ.2.1.2 a (by rw [hk]; decide)).2 hdg (fun H1 locs1 h1 hz hq hS1 => kk H1 locs1 ⟨hJ.1, hJ.2.1.set (a := a) (by rw [hk]; decide) rfl rfl (fun b hb => wE_pI S 15 a _ hb) ?_ hz hq, hS1⟩)
  rw [wE_X11 (S := s_pI S 15 a _) hk]
  simp only [I_pI, L_pI, R_pI, and_true, if_true, reduceIte, Nat.reduceEqDiff, false_and]
  exact h1
theorem pf_X11_laneOf {S0 S S1 : wS} {v : Nat} (hX : jq_X D Y aR A p s m args meth c cc own nm mx rt) (hJ : wJ D Y A s S0 S H locs) (hk : s_K S a = 10) (hx : s_pR S 16 a (some v) = S1) (hn : nm = "<init>") (ho : (TX11 1).1 = own) (hl : Cond.fieldLink own index "ScoreHandlesModel" "laneOf" "[I" ∈ lw_all) (hdg : decode cc pc = .ok (.putfield index, 3)) (kk : ∀ (H1 : Heap) (locs1 : List Loc), wJ D Y A s S0 S1 H1 locs1 → W p l e R s m args below meth c H1 locs1 (s_nx S1 - s_nx S0) (s_sl S1 - s_sl S0) Q (F0 m (pc + 3) ls rest)) : W p l e R s m args below meth c H locs (s_nx S - s_nx S0) (s_sl S - s_sl S0) Q (F0 m pc ls (.ref v :: .ref a :: rest)) := by
  subst hx
  have h := hJ.2.1.at (a := a) (by rw [hk]; decide)
  rw [wE_X11 hk] at h
  refine jq_wrf hX h ly_X11 tyX11_ok nmX11 rfl (k := 1) (by decide) hl (Or.inr ⟨rfl, hn, ho⟩) (ty := (.array .int)) (by decide +kernel) rfl rfl (by show _ < _; simp) hJ.2.2 (hJ.2.1.2 a (by rw [hk]; decide)).2 hdg (fun H1 locs1 h1 hz hq hS1 => kk H1 locs1 ⟨hJ.1, hJ.2.1.set (a := a) (by rw [hk]; decide) rfl rfl (fun b hb => wE_pR S 16 a _ hb) ?_ hz hq, hS1⟩)
  rw [wE_X11 (S := s_pR S 16 a _) hk]
  simp only [I_pR, L_pR, R_pR, and_true, if_true, reduceIte, Nat.reduceEqDiff, false_and]
  exact h1
theorem pf_X11_sizeOf {S0 S S1 : wS} {v : Nat} (hX : jq_X D Y aR A p s m args meth c cc own nm mx rt) (hJ : wJ D Y A s S0 S H locs) (hk : s_K S a = 10) (hx : s_pR S 17 a (some v) = S1) (hn : nm = "<init>") (ho : (TX11 2).1 = own) (hl : Cond.fieldLink own index "ScoreHandlesModel" "sizeOf" "[I" ∈ lw_all) (hdg : decode cc pc = .ok (.putfield index, 3)) (kk : ∀ (H1 : Heap) (locs1 : List Loc), wJ D Y A s S0 S1 H1 locs1 → W p l e R s m args below meth c H1 locs1 (s_nx S1 - s_nx S0) (s_sl S1 - s_sl S0) Q (F0 m (pc + 3) ls rest)) : W p l e R s m args below meth c H locs (s_nx S - s_nx S0) (s_sl S - s_sl S0) Q (F0 m pc ls (.ref v :: .ref a :: rest)) := by
  subst hx
  have h := hJ.2.1.at (a := a) (by rw [hk]; decide)
  rw [wE_X11 hk] at h
  refine jq_wrf hX h ly_X11 tyX11_ok nmX11 rfl (k := 2) (by decide) hl (Or.inr ⟨rfl, hn, ho⟩) (ty := (.array .int)) (by decide +kernel) rfl rfl (by show _ < _; simp) hJ.2.2 (hJ.2.1.2 a (by rw [hk]; decide)).2 hdg (fun H1 locs1 h1 hz hq hS1 => kk H1 locs1 ⟨hJ.1, hJ.2.1.set (a := a) (by rw [hk]; decide) rfl rfl (fun b hb => wE_pR S 17 a _ hb) ?_ hz hq, hS1⟩)
  rw [wE_X11 (S := s_pR S 17 a _) hk]
  simp only [I_pR, L_pR, R_pR, and_true, if_true, reduceIte, Nat.reduceEqDiff, false_and]
  exact h1
theorem pf_X11_items {S0 S S1 : wS} {v : Nat} (hX : jq_X D Y aR A p s m args meth c cc own nm mx rt) (hJ : wJ D Y A s S0 S H locs) (hk : s_K S a = 10) (hx : s_pR S 18 a (some v) = S1) (hn : nm = "<init>") (ho : (TX11 3).1 = own) (hl : Cond.fieldLink own index "ScoreHandlesModel" "items" "[J" ∈ lw_all) (hdg : decode cc pc = .ok (.putfield index, 3)) (kk : ∀ (H1 : Heap) (locs1 : List Loc), wJ D Y A s S0 S1 H1 locs1 → W p l e R s m args below meth c H1 locs1 (s_nx S1 - s_nx S0) (s_sl S1 - s_sl S0) Q (F0 m (pc + 3) ls rest)) : W p l e R s m args below meth c H locs (s_nx S - s_nx S0) (s_sl S - s_sl S0) Q (F0 m pc ls (.ref v :: .ref a :: rest)) := by
  subst hx
  have h := hJ.2.1.at (a := a) (by rw [hk]; decide)
  rw [wE_X11 hk] at h
  refine jq_wrf hX h ly_X11 tyX11_ok nmX11 rfl (k := 3) (by decide) hl (Or.inr ⟨rfl, hn, ho⟩) (ty := (.array .long)) (by decide +kernel) rfl rfl (by show _ < _; simp) hJ.2.2 (hJ.2.1.2 a (by rw [hk]; decide)).2 hdg (fun H1 locs1 h1 hz hq hS1 => kk H1 locs1 ⟨hJ.1, hJ.2.1.set (a := a) (by rw [hk]; decide) rfl rfl (fun b hb => wE_pR S 18 a _ hb) ?_ hz hq, hS1⟩)
  rw [wE_X11 (S := s_pR S 18 a _) hk]
  simp only [I_pR, L_pR, R_pR, and_true, if_true, reduceIte, Nat.reduceEqDiff, false_and]
  exact h1
theorem pf_X11_handResult {S0 S S1 : wS} {v : Int32} (hX : jq_X D Y aR A p s m args meth c cc own nm mx rt) (hJ : wJ D Y A s S0 S H locs) (hk : s_K S a = 10) (hx : s_pI S 16 a v = S1) (hl : Cond.fieldLink own index "ScoreHandlesModel" "handResult" "I" ∈ lw_all) (hdg : decode cc pc = .ok (.putfield index, 3)) (kk : ∀ (H1 : Heap) (locs1 : List Loc), wJ D Y A s S0 S1 H1 locs1 → W p l e R s m args below meth c H1 locs1 (s_nx S1 - s_nx S0) (s_sl S1 - s_sl S0) Q (F0 m (pc + 3) ls rest)) : W p l e R s m args below meth c H locs (s_nx S - s_nx S0) (s_sl S - s_sl S0) Q (F0 m pc ls (.int v :: .ref a :: rest)) := by
  subst hx
  have h := hJ.2.1.at (a := a) (by rw [hk]; decide)
  rw [wE_X11 hk] at h
  refine jq_wrf hX h ly_X11 tyX11_ok nmX11 rfl (k := 4) (by decide) hl (Or.inl rfl) (ty := .int) (by decide +kernel) rfl rfl (by show _ < _; simp) hJ.2.2 (hJ.2.1.2 a (by rw [hk]; decide)).2 hdg (fun H1 locs1 h1 hz hq hS1 => kk H1 locs1 ⟨hJ.1, hJ.2.1.set (a := a) (by rw [hk]; decide) rfl rfl (fun b hb => wE_pI S 16 a _ hb) ?_ hz hq, hS1⟩)
  rw [wE_X11 (S := s_pI S 16 a _) hk]
  simp only [I_pI, L_pI, R_pI, and_true, if_true, reduceIte, Nat.reduceEqDiff, false_and]
  exact h1
theorem pf_X11_handMany {S0 S S1 : wS} {v : Int32} (hX : jq_X D Y aR A p s m args meth c cc own nm mx rt) (hJ : wJ D Y A s S0 S H locs) (hk : s_K S a = 10) (hx : s_pI S 17 a v = S1) (hl : Cond.fieldLink own index "ScoreHandlesModel" "handMany" "I" ∈ lw_all) (hdg : decode cc pc = .ok (.putfield index, 3)) (kk : ∀ (H1 : Heap) (locs1 : List Loc), wJ D Y A s S0 S1 H1 locs1 → W p l e R s m args below meth c H1 locs1 (s_nx S1 - s_nx S0) (s_sl S1 - s_sl S0) Q (F0 m (pc + 3) ls rest)) : W p l e R s m args below meth c H locs (s_nx S - s_nx S0) (s_sl S - s_sl S0) Q (F0 m pc ls (.int v :: .ref a :: rest)) := by
  subst hx
  have h := hJ.2.1.at (a := a) (by rw [hk]; decide)
  rw [wE_X11 hk] at h
  refine jq_wrf hX h ly_X11 tyX11_ok nmX11 rfl (k := 5) (by decide) hl (Or.inl rfl) (ty := .int) (by decide +kernel) rfl rfl (by show _ < _; simp) hJ.2.2 (hJ.2.1.2 a (by rw [hk]; decide)).2 hdg (fun H1 locs1 h1 hz hq hS1 => kk H1 locs1 ⟨hJ.1, hJ.2.1.set (a := a) (by rw [hk]; decide) rfl rfl (fun b hb => wE_pI S 17 a _ hb) ?_ hz hq, hS1⟩)
  rw [wE_X11 (S := s_pI S 17 a _) hk]
  simp only [I_pI, L_pI, R_pI, and_true, if_true, reduceIte, Nat.reduceEqDiff, false_and]
  exact h1
theorem pf_X11_handKind {S0 S S1 : wS} {v : Nat} (hX : jq_X D Y aR A p s m args meth c cc own nm mx rt) (hJ : wJ D Y A s S0 S H locs) (hk : s_K S a = 10) (hx : s_pR S 19 a (some v) = S1) (hn : nm = "<init>") (ho : (TX11 6).1 = own) (hl : Cond.fieldLink own index "ScoreHandlesModel" "handKind" "[I" ∈ lw_all) (hdg : decode cc pc = .ok (.putfield index, 3)) (kk : ∀ (H1 : Heap) (locs1 : List Loc), wJ D Y A s S0 S1 H1 locs1 → W p l e R s m args below meth c H1 locs1 (s_nx S1 - s_nx S0) (s_sl S1 - s_sl S0) Q (F0 m (pc + 3) ls rest)) : W p l e R s m args below meth c H locs (s_nx S - s_nx S0) (s_sl S - s_sl S0) Q (F0 m pc ls (.ref v :: .ref a :: rest)) := by
  subst hx
  have h := hJ.2.1.at (a := a) (by rw [hk]; decide)
  rw [wE_X11 hk] at h
  refine jq_wrf hX h ly_X11 tyX11_ok nmX11 rfl (k := 6) (by decide) hl (Or.inr ⟨rfl, hn, ho⟩) (ty := (.array .int)) (by decide +kernel) rfl rfl (by show _ < _; simp) hJ.2.2 (hJ.2.1.2 a (by rw [hk]; decide)).2 hdg (fun H1 locs1 h1 hz hq hS1 => kk H1 locs1 ⟨hJ.1, hJ.2.1.set (a := a) (by rw [hk]; decide) rfl rfl (fun b hb => wE_pR S 19 a _ hb) ?_ hz hq, hS1⟩)
  rw [wE_X11 (S := s_pR S 19 a _) hk]
  simp only [I_pR, L_pR, R_pR, and_true, if_true, reduceIte, Nat.reduceEqDiff, false_and]
  exact h1
theorem pf_X11_given {S0 S S1 : wS} {v : Nat} (hX : jq_X D Y aR A p s m args meth c cc own nm mx rt) (hJ : wJ D Y A s S0 S H locs) (hk : s_K S a = 10) (hx : s_pR S 20 a (some v) = S1) (hn : nm = "<init>") (ho : (TX11 7).1 = own) (hl : Cond.fieldLink own index "ScoreHandlesModel" "given" "[J" ∈ lw_all) (hdg : decode cc pc = .ok (.putfield index, 3)) (kk : ∀ (H1 : Heap) (locs1 : List Loc), wJ D Y A s S0 S1 H1 locs1 → W p l e R s m args below meth c H1 locs1 (s_nx S1 - s_nx S0) (s_sl S1 - s_sl S0) Q (F0 m (pc + 3) ls rest)) : W p l e R s m args below meth c H locs (s_nx S - s_nx S0) (s_sl S - s_sl S0) Q (F0 m pc ls (.ref v :: .ref a :: rest)) := by
  subst hx
  have h := hJ.2.1.at (a := a) (by rw [hk]; decide)
  rw [wE_X11 hk] at h
  refine jq_wrf hX h ly_X11 tyX11_ok nmX11 rfl (k := 7) (by decide) hl (Or.inr ⟨rfl, hn, ho⟩) (ty := (.array .long)) (by decide +kernel) rfl rfl (by show _ < _; simp) hJ.2.2 (hJ.2.1.2 a (by rw [hk]; decide)).2 hdg (fun H1 locs1 h1 hz hq hS1 => kk H1 locs1 ⟨hJ.1, hJ.2.1.set (a := a) (by rw [hk]; decide) rfl rfl (fun b hb => wE_pR S 20 a _ hb) ?_ hz hq, hS1⟩)
  rw [wE_X11 (S := s_pR S 20 a _) hk]
  simp only [I_pR, L_pR, R_pR, and_true, if_true, reduceIte, Nat.reduceEqDiff, false_and]
  exact h1
theorem pf_X11_handles {S0 S S1 : wS} {v : Int32} (hX : jq_X D Y aR A p s m args meth c cc own nm mx rt) (hJ : wJ D Y A s S0 S H locs) (hk : s_K S a = 10) (hx : s_pI S 18 a v = S1) (hl : Cond.fieldLink own index "ScoreHandlesModel" "handles" "I" ∈ lw_all) (hdg : decode cc pc = .ok (.putfield index, 3)) (kk : ∀ (H1 : Heap) (locs1 : List Loc), wJ D Y A s S0 S1 H1 locs1 → W p l e R s m args below meth c H1 locs1 (s_nx S1 - s_nx S0) (s_sl S1 - s_sl S0) Q (F0 m (pc + 3) ls rest)) : W p l e R s m args below meth c H locs (s_nx S - s_nx S0) (s_sl S - s_sl S0) Q (F0 m pc ls (.int v :: .ref a :: rest)) := by
  subst hx
  have h := hJ.2.1.at (a := a) (by rw [hk]; decide)
  rw [wE_X11 hk] at h
  refine jq_wrf hX h ly_X11 tyX11_ok nmX11 rfl (k := 8) (by decide) hl (Or.inl rfl) (ty := .int) (by decide +kernel) rfl rfl (by show _ < _; simp) hJ.2.2 (hJ.2.1.2 a (by rw [hk]; decide)).2 hdg (fun H1 locs1 h1 hz hq hS1 => kk H1 locs1 ⟨hJ.1, hJ.2.1.set (a := a) (by rw [hk]; decide) rfl rfl (fun b hb => wE_pI S 18 a _ hb) ?_ hz hq, hS1⟩)
  rw [wE_X11 (S := s_pI S 18 a _) hk]
  simp only [I_pI, L_pI, R_pI, and_true, if_true, reduceIte, Nat.reduceEqDiff, false_and]
  exact h1
theorem pf_X11_sortOf {S0 S S1 : wS} {v : Nat} (hX : jq_X D Y aR A p s m args meth c cc own nm mx rt) (hJ : wJ D Y A s S0 S H locs) (hk : s_K S a = 10) (hx : s_pR S 21 a (some v) = S1) (hn : nm = "<init>") (ho : (TX11 9).1 = own) (hl : Cond.fieldLink own index "ScoreHandlesModel" "sortOf" "[I" ∈ lw_all) (hdg : decode cc pc = .ok (.putfield index, 3)) (kk : ∀ (H1 : Heap) (locs1 : List Loc), wJ D Y A s S0 S1 H1 locs1 → W p l e R s m args below meth c H1 locs1 (s_nx S1 - s_nx S0) (s_sl S1 - s_sl S0) Q (F0 m (pc + 3) ls rest)) : W p l e R s m args below meth c H locs (s_nx S - s_nx S0) (s_sl S - s_sl S0) Q (F0 m pc ls (.ref v :: .ref a :: rest)) := by
  subst hx
  have h := hJ.2.1.at (a := a) (by rw [hk]; decide)
  rw [wE_X11 hk] at h
  refine jq_wrf hX h ly_X11 tyX11_ok nmX11 rfl (k := 9) (by decide) hl (Or.inr ⟨rfl, hn, ho⟩) (ty := (.array .int)) (by decide +kernel) rfl rfl (by show _ < _; simp) hJ.2.2 (hJ.2.1.2 a (by rw [hk]; decide)).2 hdg (fun H1 locs1 h1 hz hq hS1 => kk H1 locs1 ⟨hJ.1, hJ.2.1.set (a := a) (by rw [hk]; decide) rfl rfl (fun b hb => wE_pR S 21 a _ hb) ?_ hz hq, hS1⟩)
  rw [wE_X11 (S := s_pR S 21 a _) hk]
  simp only [I_pR, L_pR, R_pR, and_true, if_true, reduceIte, Nat.reduceEqDiff, false_and]
  exact h1
theorem pf_X11_aOf {S0 S S1 : wS} {v : Nat} (hX : jq_X D Y aR A p s m args meth c cc own nm mx rt) (hJ : wJ D Y A s S0 S H locs) (hk : s_K S a = 10) (hx : s_pR S 22 a (some v) = S1) (hn : nm = "<init>") (ho : (TX11 10).1 = own) (hl : Cond.fieldLink own index "ScoreHandlesModel" "aOf" "[I" ∈ lw_all) (hdg : decode cc pc = .ok (.putfield index, 3)) (kk : ∀ (H1 : Heap) (locs1 : List Loc), wJ D Y A s S0 S1 H1 locs1 → W p l e R s m args below meth c H1 locs1 (s_nx S1 - s_nx S0) (s_sl S1 - s_sl S0) Q (F0 m (pc + 3) ls rest)) : W p l e R s m args below meth c H locs (s_nx S - s_nx S0) (s_sl S - s_sl S0) Q (F0 m pc ls (.ref v :: .ref a :: rest)) := by
  subst hx
  have h := hJ.2.1.at (a := a) (by rw [hk]; decide)
  rw [wE_X11 hk] at h
  refine jq_wrf hX h ly_X11 tyX11_ok nmX11 rfl (k := 10) (by decide) hl (Or.inr ⟨rfl, hn, ho⟩) (ty := (.array .int)) (by decide +kernel) rfl rfl (by show _ < _; simp) hJ.2.2 (hJ.2.1.2 a (by rw [hk]; decide)).2 hdg (fun H1 locs1 h1 hz hq hS1 => kk H1 locs1 ⟨hJ.1, hJ.2.1.set (a := a) (by rw [hk]; decide) rfl rfl (fun b hb => wE_pR S 22 a _ hb) ?_ hz hq, hS1⟩)
  rw [wE_X11 (S := s_pR S 22 a _) hk]
  simp only [I_pR, L_pR, R_pR, and_true, if_true, reduceIte, Nat.reduceEqDiff, false_and]
  exact h1
theorem pf_X11_bOf {S0 S S1 : wS} {v : Nat} (hX : jq_X D Y aR A p s m args meth c cc own nm mx rt) (hJ : wJ D Y A s S0 S H locs) (hk : s_K S a = 10) (hx : s_pR S 23 a (some v) = S1) (hn : nm = "<init>") (ho : (TX11 11).1 = own) (hl : Cond.fieldLink own index "ScoreHandlesModel" "bOf" "[I" ∈ lw_all) (hdg : decode cc pc = .ok (.putfield index, 3)) (kk : ∀ (H1 : Heap) (locs1 : List Loc), wJ D Y A s S0 S1 H1 locs1 → W p l e R s m args below meth c H1 locs1 (s_nx S1 - s_nx S0) (s_sl S1 - s_sl S0) Q (F0 m (pc + 3) ls rest)) : W p l e R s m args below meth c H locs (s_nx S - s_nx S0) (s_sl S - s_sl S0) Q (F0 m pc ls (.ref v :: .ref a :: rest)) := by
  subst hx
  have h := hJ.2.1.at (a := a) (by rw [hk]; decide)
  rw [wE_X11 hk] at h
  refine jq_wrf hX h ly_X11 tyX11_ok nmX11 rfl (k := 11) (by decide) hl (Or.inr ⟨rfl, hn, ho⟩) (ty := (.array .int)) (by decide +kernel) rfl rfl (by show _ < _; simp) hJ.2.2 (hJ.2.1.2 a (by rw [hk]; decide)).2 hdg (fun H1 locs1 h1 hz hq hS1 => kk H1 locs1 ⟨hJ.1, hJ.2.1.set (a := a) (by rw [hk]; decide) rfl rfl (fun b hb => wE_pR S 23 a _ hb) ?_ hz hq, hS1⟩)
  rw [wE_X11 (S := s_pR S 23 a _) hk]
  simp only [I_pR, L_pR, R_pR, and_true, if_true, reduceIte, Nat.reduceEqDiff, false_and]
  exact h1
theorem pf_X11_cOf {S0 S S1 : wS} {v : Nat} (hX : jq_X D Y aR A p s m args meth c cc own nm mx rt) (hJ : wJ D Y A s S0 S H locs) (hk : s_K S a = 10) (hx : s_pR S 24 a (some v) = S1) (hn : nm = "<init>") (ho : (TX11 12).1 = own) (hl : Cond.fieldLink own index "ScoreHandlesModel" "cOf" "[I" ∈ lw_all) (hdg : decode cc pc = .ok (.putfield index, 3)) (kk : ∀ (H1 : Heap) (locs1 : List Loc), wJ D Y A s S0 S1 H1 locs1 → W p l e R s m args below meth c H1 locs1 (s_nx S1 - s_nx S0) (s_sl S1 - s_sl S0) Q (F0 m (pc + 3) ls rest)) : W p l e R s m args below meth c H locs (s_nx S - s_nx S0) (s_sl S - s_sl S0) Q (F0 m pc ls (.ref v :: .ref a :: rest)) := by
  subst hx
  have h := hJ.2.1.at (a := a) (by rw [hk]; decide)
  rw [wE_X11 hk] at h
  refine jq_wrf hX h ly_X11 tyX11_ok nmX11 rfl (k := 12) (by decide) hl (Or.inr ⟨rfl, hn, ho⟩) (ty := (.array .int)) (by decide +kernel) rfl rfl (by show _ < _; simp) hJ.2.2 (hJ.2.1.2 a (by rw [hk]; decide)).2 hdg (fun H1 locs1 h1 hz hq hS1 => kk H1 locs1 ⟨hJ.1, hJ.2.1.set (a := a) (by rw [hk]; decide) rfl rfl (fun b hb => wE_pR S 24 a _ hb) ?_ hz hq, hS1⟩)
  rw [wE_X11 (S := s_pR S 24 a _) hk]
  simp only [I_pR, L_pR, R_pR, and_true, if_true, reduceIte, Nat.reduceEqDiff, false_and]
  exact h1
theorem pf_X11_vOf {S0 S S1 : wS} {v : Nat} (hX : jq_X D Y aR A p s m args meth c cc own nm mx rt) (hJ : wJ D Y A s S0 S H locs) (hk : s_K S a = 10) (hx : s_pR S 25 a (some v) = S1) (hn : nm = "<init>") (ho : (TX11 13).1 = own) (hl : Cond.fieldLink own index "ScoreHandlesModel" "vOf" "[J" ∈ lw_all) (hdg : decode cc pc = .ok (.putfield index, 3)) (kk : ∀ (H1 : Heap) (locs1 : List Loc), wJ D Y A s S0 S1 H1 locs1 → W p l e R s m args below meth c H1 locs1 (s_nx S1 - s_nx S0) (s_sl S1 - s_sl S0) Q (F0 m (pc + 3) ls rest)) : W p l e R s m args below meth c H locs (s_nx S - s_nx S0) (s_sl S - s_sl S0) Q (F0 m pc ls (.ref v :: .ref a :: rest)) := by
  subst hx
  have h := hJ.2.1.at (a := a) (by rw [hk]; decide)
  rw [wE_X11 hk] at h
  refine jq_wrf hX h ly_X11 tyX11_ok nmX11 rfl (k := 13) (by decide) hl (Or.inr ⟨rfl, hn, ho⟩) (ty := (.array .long)) (by decide +kernel) rfl rfl (by show _ < _; simp) hJ.2.2 (hJ.2.1.2 a (by rw [hk]; decide)).2 hdg (fun H1 locs1 h1 hz hq hS1 => kk H1 locs1 ⟨hJ.1, hJ.2.1.set (a := a) (by rw [hk]; decide) rfl rfl (fun b hb => wE_pR S 25 a _ hb) ?_ hz hq, hS1⟩)
  rw [wE_X11 (S := s_pR S 25 a _) hk]
  simp only [I_pR, L_pR, R_pR, and_true, if_true, reduceIte, Nat.reduceEqDiff, false_and]
  exact h1
theorem pf_X11_manyOf {S0 S S1 : wS} {v : Nat} (hX : jq_X D Y aR A p s m args meth c cc own nm mx rt) (hJ : wJ D Y A s S0 S H locs) (hk : s_K S a = 10) (hx : s_pR S 26 a (some v) = S1) (hn : nm = "<init>") (ho : (TX11 14).1 = own) (hl : Cond.fieldLink own index "ScoreHandlesModel" "manyOf" "[I" ∈ lw_all) (hdg : decode cc pc = .ok (.putfield index, 3)) (kk : ∀ (H1 : Heap) (locs1 : List Loc), wJ D Y A s S0 S1 H1 locs1 → W p l e R s m args below meth c H1 locs1 (s_nx S1 - s_nx S0) (s_sl S1 - s_sl S0) Q (F0 m (pc + 3) ls rest)) : W p l e R s m args below meth c H locs (s_nx S - s_nx S0) (s_sl S - s_sl S0) Q (F0 m pc ls (.ref v :: .ref a :: rest)) := by
  subst hx
  have h := hJ.2.1.at (a := a) (by rw [hk]; decide)
  rw [wE_X11 hk] at h
  refine jq_wrf hX h ly_X11 tyX11_ok nmX11 rfl (k := 14) (by decide) hl (Or.inr ⟨rfl, hn, ho⟩) (ty := (.array .int)) (by decide +kernel) rfl rfl (by show _ < _; simp) hJ.2.2 (hJ.2.1.2 a (by rw [hk]; decide)).2 hdg (fun H1 locs1 h1 hz hq hS1 => kk H1 locs1 ⟨hJ.1, hJ.2.1.set (a := a) (by rw [hk]; decide) rfl rfl (fun b hb => wE_pR S 26 a _ hb) ?_ hz hq, hS1⟩)
  rw [wE_X11 (S := s_pR S 26 a _) hk]
  simp only [I_pR, L_pR, R_pR, and_true, if_true, reduceIte, Nat.reduceEqDiff, false_and]
  exact h1
theorem pf_X11_kindOf {S0 S S1 : wS} {v : Nat} (hX : jq_X D Y aR A p s m args meth c cc own nm mx rt) (hJ : wJ D Y A s S0 S H locs) (hk : s_K S a = 10) (hx : s_pR S 27 a (some v) = S1) (hn : nm = "<init>") (ho : (TX11 15).1 = own) (hl : Cond.fieldLink own index "ScoreHandlesModel" "kindOf" "[I" ∈ lw_all) (hdg : decode cc pc = .ok (.putfield index, 3)) (kk : ∀ (H1 : Heap) (locs1 : List Loc), wJ D Y A s S0 S1 H1 locs1 → W p l e R s m args below meth c H1 locs1 (s_nx S1 - s_nx S0) (s_sl S1 - s_sl S0) Q (F0 m (pc + 3) ls rest)) : W p l e R s m args below meth c H locs (s_nx S - s_nx S0) (s_sl S - s_sl S0) Q (F0 m pc ls (.ref v :: .ref a :: rest)) := by
  subst hx
  have h := hJ.2.1.at (a := a) (by rw [hk]; decide)
  rw [wE_X11 hk] at h
  refine jq_wrf hX h ly_X11 tyX11_ok nmX11 rfl (k := 15) (by decide) hl (Or.inr ⟨rfl, hn, ho⟩) (ty := (.array .int)) (by decide +kernel) rfl rfl (by show _ < _; simp) hJ.2.2 (hJ.2.1.2 a (by rw [hk]; decide)).2 hdg (fun H1 locs1 h1 hz hq hS1 => kk H1 locs1 ⟨hJ.1, hJ.2.1.set (a := a) (by rw [hk]; decide) rfl rfl (fun b hb => wE_pR S 27 a _ hb) ?_ hz hq, hS1⟩)
  rw [wE_X11 (S := s_pR S 27 a _) hk]
  simp only [I_pR, L_pR, R_pR, and_true, if_true, reduceIte, Nat.reduceEqDiff, false_and]
  exact h1
theorem pf_X11_resultOf {S0 S S1 : wS} {v : Nat} (hX : jq_X D Y aR A p s m args meth c cc own nm mx rt) (hJ : wJ D Y A s S0 S H locs) (hk : s_K S a = 10) (hx : s_pR S 28 a (some v) = S1) (hn : nm = "<init>") (ho : (TX11 16).1 = own) (hl : Cond.fieldLink own index "ScoreHandlesModel" "resultOf" "[I" ∈ lw_all) (hdg : decode cc pc = .ok (.putfield index, 3)) (kk : ∀ (H1 : Heap) (locs1 : List Loc), wJ D Y A s S0 S1 H1 locs1 → W p l e R s m args below meth c H1 locs1 (s_nx S1 - s_nx S0) (s_sl S1 - s_sl S0) Q (F0 m (pc + 3) ls rest)) : W p l e R s m args below meth c H locs (s_nx S - s_nx S0) (s_sl S - s_sl S0) Q (F0 m pc ls (.ref v :: .ref a :: rest)) := by
  subst hx
  have h := hJ.2.1.at (a := a) (by rw [hk]; decide)
  rw [wE_X11 hk] at h
  refine jq_wrf hX h ly_X11 tyX11_ok nmX11 rfl (k := 16) (by decide) hl (Or.inr ⟨rfl, hn, ho⟩) (ty := (.array .int)) (by decide +kernel) rfl rfl (by show _ < _; simp) hJ.2.2 (hJ.2.1.2 a (by rw [hk]; decide)).2 hdg (fun H1 locs1 h1 hz hq hS1 => kk H1 locs1 ⟨hJ.1, hJ.2.1.set (a := a) (by rw [hk]; decide) rfl rfl (fun b hb => wE_pR S 28 a _ hb) ?_ hz hq, hS1⟩)
  rw [wE_X11 (S := s_pR S 28 a _) hk]
  simp only [I_pR, L_pR, R_pR, and_true, if_true, reduceIte, Nat.reduceEqDiff, false_and]
  exact h1
theorem pf_X11_madeA {S0 S S1 : wS} {v : Int32} (hX : jq_X D Y aR A p s m args meth c cc own nm mx rt) (hJ : wJ D Y A s S0 S H locs) (hk : s_K S a = 10) (hx : s_pI S 19 a v = S1) (hl : Cond.fieldLink own index "ScoreHandlesModel" "madeA" "I" ∈ lw_all) (hdg : decode cc pc = .ok (.putfield index, 3)) (kk : ∀ (H1 : Heap) (locs1 : List Loc), wJ D Y A s S0 S1 H1 locs1 → W p l e R s m args below meth c H1 locs1 (s_nx S1 - s_nx S0) (s_sl S1 - s_sl S0) Q (F0 m (pc + 3) ls rest)) : W p l e R s m args below meth c H locs (s_nx S - s_nx S0) (s_sl S - s_sl S0) Q (F0 m pc ls (.int v :: .ref a :: rest)) := by
  subst hx
  have h := hJ.2.1.at (a := a) (by rw [hk]; decide)
  rw [wE_X11 hk] at h
  refine jq_wrf hX h ly_X11 tyX11_ok nmX11 rfl (k := 17) (by decide) hl (Or.inl rfl) (ty := .int) (by decide +kernel) rfl rfl (by show _ < _; simp) hJ.2.2 (hJ.2.1.2 a (by rw [hk]; decide)).2 hdg (fun H1 locs1 h1 hz hq hS1 => kk H1 locs1 ⟨hJ.1, hJ.2.1.set (a := a) (by rw [hk]; decide) rfl rfl (fun b hb => wE_pI S 19 a _ hb) ?_ hz hq, hS1⟩)
  rw [wE_X11 (S := s_pI S 19 a _) hk]
  simp only [I_pI, L_pI, R_pI, and_true, if_true, reduceIte, Nat.reduceEqDiff, false_and]
  exact h1
theorem pf_X11_madeB {S0 S S1 : wS} {v : Int32} (hX : jq_X D Y aR A p s m args meth c cc own nm mx rt) (hJ : wJ D Y A s S0 S H locs) (hk : s_K S a = 10) (hx : s_pI S 20 a v = S1) (hl : Cond.fieldLink own index "ScoreHandlesModel" "madeB" "I" ∈ lw_all) (hdg : decode cc pc = .ok (.putfield index, 3)) (kk : ∀ (H1 : Heap) (locs1 : List Loc), wJ D Y A s S0 S1 H1 locs1 → W p l e R s m args below meth c H1 locs1 (s_nx S1 - s_nx S0) (s_sl S1 - s_sl S0) Q (F0 m (pc + 3) ls rest)) : W p l e R s m args below meth c H locs (s_nx S - s_nx S0) (s_sl S - s_sl S0) Q (F0 m pc ls (.int v :: .ref a :: rest)) := by
  subst hx
  have h := hJ.2.1.at (a := a) (by rw [hk]; decide)
  rw [wE_X11 hk] at h
  refine jq_wrf hX h ly_X11 tyX11_ok nmX11 rfl (k := 18) (by decide) hl (Or.inl rfl) (ty := .int) (by decide +kernel) rfl rfl (by show _ < _; simp) hJ.2.2 (hJ.2.1.2 a (by rw [hk]; decide)).2 hdg (fun H1 locs1 h1 hz hq hS1 => kk H1 locs1 ⟨hJ.1, hJ.2.1.set (a := a) (by rw [hk]; decide) rfl rfl (fun b hb => wE_pI S 20 a _ hb) ?_ hz hq, hS1⟩)
  rw [wE_X11 (S := s_pI S 20 a _) hk]
  simp only [I_pI, L_pI, R_pI, and_true, if_true, reduceIte, Nat.reduceEqDiff, false_and]
  exact h1
theorem pf_X11_madeC {S0 S S1 : wS} {v : Int32} (hX : jq_X D Y aR A p s m args meth c cc own nm mx rt) (hJ : wJ D Y A s S0 S H locs) (hk : s_K S a = 10) (hx : s_pI S 21 a v = S1) (hl : Cond.fieldLink own index "ScoreHandlesModel" "madeC" "I" ∈ lw_all) (hdg : decode cc pc = .ok (.putfield index, 3)) (kk : ∀ (H1 : Heap) (locs1 : List Loc), wJ D Y A s S0 S1 H1 locs1 → W p l e R s m args below meth c H1 locs1 (s_nx S1 - s_nx S0) (s_sl S1 - s_sl S0) Q (F0 m (pc + 3) ls rest)) : W p l e R s m args below meth c H locs (s_nx S - s_nx S0) (s_sl S - s_sl S0) Q (F0 m pc ls (.int v :: .ref a :: rest)) := by
  subst hx
  have h := hJ.2.1.at (a := a) (by rw [hk]; decide)
  rw [wE_X11 hk] at h
  refine jq_wrf hX h ly_X11 tyX11_ok nmX11 rfl (k := 19) (by decide) hl (Or.inl rfl) (ty := .int) (by decide +kernel) rfl rfl (by show _ < _; simp) hJ.2.2 (hJ.2.1.2 a (by rw [hk]; decide)).2 hdg (fun H1 locs1 h1 hz hq hS1 => kk H1 locs1 ⟨hJ.1, hJ.2.1.set (a := a) (by rw [hk]; decide) rfl rfl (fun b hb => wE_pI S 21 a _ hb) ?_ hz hq, hS1⟩)
  rw [wE_X11 (S := s_pI S 21 a _) hk]
  simp only [I_pI, L_pI, R_pI, and_true, if_true, reduceIte, Nat.reduceEqDiff, false_and]
  exact h1
theorem pf_X11_madeV {S0 S S1 : wS} {v : Int64} (hX : jq_X D Y aR A p s m args meth c cc own nm mx rt) (hJ : wJ D Y A s S0 S H locs) (hk : s_K S a = 10) (hx : s_pL S 2 a v = S1) (hl : Cond.fieldLink own index "ScoreHandlesModel" "madeV" "J" ∈ lw_all) (hdg : decode cc pc = .ok (.putfield index, 3)) (kk : ∀ (H1 : Heap) (locs1 : List Loc), wJ D Y A s S0 S1 H1 locs1 → W p l e R s m args below meth c H1 locs1 (s_nx S1 - s_nx S0) (s_sl S1 - s_sl S0) Q (F0 m (pc + 3) ls rest)) : W p l e R s m args below meth c H locs (s_nx S - s_nx S0) (s_sl S - s_sl S0) Q (F0 m pc ls (.long v :: .ref a :: rest)) := by
  subst hx
  have h := hJ.2.1.at (a := a) (by rw [hk]; decide)
  rw [wE_X11 hk] at h
  refine jq_wrf hX h ly_X11 tyX11_ok nmX11 rfl (k := 20) (by decide) hl (Or.inl rfl) (ty := .long) (by decide +kernel) rfl rfl (by show _ < _; simp) hJ.2.2 (hJ.2.1.2 a (by rw [hk]; decide)).2 hdg (fun H1 locs1 h1 hz hq hS1 => kk H1 locs1 ⟨hJ.1, hJ.2.1.set (a := a) (by rw [hk]; decide) rfl rfl (fun b hb => wE_pL S 2 a _ hb) ?_ hz hq, hS1⟩)
  rw [wE_X11 (S := s_pL S 2 a _) hk]
  simp only [I_pL, L_pL, R_pL, and_true, if_true, reduceIte, Nat.reduceEqDiff, false_and]
  exact h1
theorem pf_X11_depth {S0 S S1 : wS} {v : Int32} (hX : jq_X D Y aR A p s m args meth c cc own nm mx rt) (hJ : wJ D Y A s S0 S H locs) (hk : s_K S a = 10) (hx : s_pI S 22 a v = S1) (hl : Cond.fieldLink own index "ScoreHandlesModel" "depth" "I" ∈ lw_all) (hdg : decode cc pc = .ok (.putfield index, 3)) (kk : ∀ (H1 : Heap) (locs1 : List Loc), wJ D Y A s S0 S1 H1 locs1 → W p l e R s m args below meth c H1 locs1 (s_nx S1 - s_nx S0) (s_sl S1 - s_sl S0) Q (F0 m (pc + 3) ls rest)) : W p l e R s m args below meth c H locs (s_nx S - s_nx S0) (s_sl S - s_sl S0) Q (F0 m pc ls (.int v :: .ref a :: rest)) := by
  subst hx
  have h := hJ.2.1.at (a := a) (by rw [hk]; decide)
  rw [wE_X11 hk] at h
  refine jq_wrf hX h ly_X11 tyX11_ok nmX11 rfl (k := 21) (by decide) hl (Or.inl rfl) (ty := .int) (by decide +kernel) rfl rfl (by show _ < _; simp) hJ.2.2 (hJ.2.1.2 a (by rw [hk]; decide)).2 hdg (fun H1 locs1 h1 hz hq hS1 => kk H1 locs1 ⟨hJ.1, hJ.2.1.set (a := a) (by rw [hk]; decide) rfl rfl (fun b hb => wE_pI S 22 a _ hb) ?_ hz hq, hS1⟩)
  rw [wE_X11 (S := s_pI S 22 a _) hk]
  simp only [I_pI, L_pI, R_pI, and_true, if_true, reduceIte, Nat.reduceEqDiff, false_and]
  exact h1
theorem pf_X11_frame {S0 S S1 : wS} {v : Nat} (hX : jq_X D Y aR A p s m args meth c cc own nm mx rt) (hJ : wJ D Y A s S0 S H locs) (hk : s_K S a = 10) (hx : s_pR S 29 a (some v) = S1) (hn : nm = "<init>") (ho : (TX11 22).1 = own) (hl : Cond.fieldLink own index "ScoreHandlesModel" "frame" "[I" ∈ lw_all) (hdg : decode cc pc = .ok (.putfield index, 3)) (kk : ∀ (H1 : Heap) (locs1 : List Loc), wJ D Y A s S0 S1 H1 locs1 → W p l e R s m args below meth c H1 locs1 (s_nx S1 - s_nx S0) (s_sl S1 - s_sl S0) Q (F0 m (pc + 3) ls rest)) : W p l e R s m args below meth c H locs (s_nx S - s_nx S0) (s_sl S - s_sl S0) Q (F0 m pc ls (.ref v :: .ref a :: rest)) := by
  subst hx
  have h := hJ.2.1.at (a := a) (by rw [hk]; decide)
  rw [wE_X11 hk] at h
  refine jq_wrf hX h ly_X11 tyX11_ok nmX11 rfl (k := 22) (by decide) hl (Or.inr ⟨rfl, hn, ho⟩) (ty := (.array .int)) (by decide +kernel) rfl rfl (by show _ < _; simp) hJ.2.2 (hJ.2.1.2 a (by rw [hk]; decide)).2 hdg (fun H1 locs1 h1 hz hq hS1 => kk H1 locs1 ⟨hJ.1, hJ.2.1.set (a := a) (by rw [hk]; decide) rfl rfl (fun b hb => wE_pR S 29 a _ hb) ?_ hz hq, hS1⟩)
  rw [wE_X11 (S := s_pR S 29 a _) hk]
  simp only [I_pR, L_pR, R_pR, and_true, if_true, reduceIte, Nat.reduceEqDiff, false_and]
  exact h1
theorem pf_X11_phase {S0 S S1 : wS} {v : Nat} (hX : jq_X D Y aR A p s m args meth c cc own nm mx rt) (hJ : wJ D Y A s S0 S H locs) (hk : s_K S a = 10) (hx : s_pR S 30 a (some v) = S1) (hn : nm = "<init>") (ho : (TX11 23).1 = own) (hl : Cond.fieldLink own index "ScoreHandlesModel" "phase" "[I" ∈ lw_all) (hdg : decode cc pc = .ok (.putfield index, 3)) (kk : ∀ (H1 : Heap) (locs1 : List Loc), wJ D Y A s S0 S1 H1 locs1 → W p l e R s m args below meth c H1 locs1 (s_nx S1 - s_nx S0) (s_sl S1 - s_sl S0) Q (F0 m (pc + 3) ls rest)) : W p l e R s m args below meth c H locs (s_nx S - s_nx S0) (s_sl S - s_sl S0) Q (F0 m pc ls (.ref v :: .ref a :: rest)) := by
  subst hx
  have h := hJ.2.1.at (a := a) (by rw [hk]; decide)
  rw [wE_X11 hk] at h
  refine jq_wrf hX h ly_X11 tyX11_ok nmX11 rfl (k := 23) (by decide) hl (Or.inr ⟨rfl, hn, ho⟩) (ty := (.array .int)) (by decide +kernel) rfl rfl (by show _ < _; simp) hJ.2.2 (hJ.2.1.2 a (by rw [hk]; decide)).2 hdg (fun H1 locs1 h1 hz hq hS1 => kk H1 locs1 ⟨hJ.1, hJ.2.1.set (a := a) (by rw [hk]; decide) rfl rfl (fun b hb => wE_pR S 30 a _ hb) ?_ hz hq, hS1⟩)
  rw [wE_X11 (S := s_pR S 30 a _) hk]
  simp only [I_pR, L_pR, R_pR, and_true, if_true, reduceIte, Nat.reduceEqDiff, false_and]
  exact h1
theorem pf_X11_par {S0 S S1 : wS} {v : Nat} (hX : jq_X D Y aR A p s m args meth c cc own nm mx rt) (hJ : wJ D Y A s S0 S H locs) (hk : s_K S a = 10) (hx : s_pR S 31 a (some v) = S1) (hn : nm = "<init>") (ho : (TX11 24).1 = own) (hl : Cond.fieldLink own index "ScoreHandlesModel" "par" "[J" ∈ lw_all) (hdg : decode cc pc = .ok (.putfield index, 3)) (kk : ∀ (H1 : Heap) (locs1 : List Loc), wJ D Y A s S0 S1 H1 locs1 → W p l e R s m args below meth c H1 locs1 (s_nx S1 - s_nx S0) (s_sl S1 - s_sl S0) Q (F0 m (pc + 3) ls rest)) : W p l e R s m args below meth c H locs (s_nx S - s_nx S0) (s_sl S - s_sl S0) Q (F0 m pc ls (.ref v :: .ref a :: rest)) := by
  subst hx
  have h := hJ.2.1.at (a := a) (by rw [hk]; decide)
  rw [wE_X11 hk] at h
  refine jq_wrf hX h ly_X11 tyX11_ok nmX11 rfl (k := 24) (by decide) hl (Or.inr ⟨rfl, hn, ho⟩) (ty := (.array .long)) (by decide +kernel) rfl rfl (by show _ < _; simp) hJ.2.2 (hJ.2.1.2 a (by rw [hk]; decide)).2 hdg (fun H1 locs1 h1 hz hq hS1 => kk H1 locs1 ⟨hJ.1, hJ.2.1.set (a := a) (by rw [hk]; decide) rfl rfl (fun b hb => wE_pR S 31 a _ hb) ?_ hz hq, hS1⟩)
  rw [wE_X11 (S := s_pR S 31 a _) hk]
  simp only [I_pR, L_pR, R_pR, and_true, if_true, reduceIte, Nat.reduceEqDiff, false_and]
  exact h1
theorem pf_X11_held {S0 S S1 : wS} {v : Nat} (hX : jq_X D Y aR A p s m args meth c cc own nm mx rt) (hJ : wJ D Y A s S0 S H locs) (hk : s_K S a = 10) (hx : s_pR S 32 a (some v) = S1) (hn : nm = "<init>") (ho : (TX11 25).1 = own) (hl : Cond.fieldLink own index "ScoreHandlesModel" "held" "[J" ∈ lw_all) (hdg : decode cc pc = .ok (.putfield index, 3)) (kk : ∀ (H1 : Heap) (locs1 : List Loc), wJ D Y A s S0 S1 H1 locs1 → W p l e R s m args below meth c H1 locs1 (s_nx S1 - s_nx S0) (s_sl S1 - s_sl S0) Q (F0 m (pc + 3) ls rest)) : W p l e R s m args below meth c H locs (s_nx S - s_nx S0) (s_sl S - s_sl S0) Q (F0 m pc ls (.ref v :: .ref a :: rest)) := by
  subst hx
  have h := hJ.2.1.at (a := a) (by rw [hk]; decide)
  rw [wE_X11 hk] at h
  refine jq_wrf hX h ly_X11 tyX11_ok nmX11 rfl (k := 25) (by decide) hl (Or.inr ⟨rfl, hn, ho⟩) (ty := (.array .long)) (by decide +kernel) rfl rfl (by show _ < _; simp) hJ.2.2 (hJ.2.1.2 a (by rw [hk]; decide)).2 hdg (fun H1 locs1 h1 hz hq hS1 => kk H1 locs1 ⟨hJ.1, hJ.2.1.set (a := a) (by rw [hk]; decide) rfl rfl (fun b hb => wE_pR S 32 a _ hb) ?_ hz hq, hS1⟩)
  rw [wE_X11 (S := s_pR S 32 a _) hk]
  simp only [I_pR, L_pR, R_pR, and_true, if_true, reduceIte, Nat.reduceEqDiff, false_and]
  exact h1
theorem pf_X11_turn {S0 S S1 : wS} {v : Nat} (hX : jq_X D Y aR A p s m args meth c cc own nm mx rt) (hJ : wJ D Y A s S0 S H locs) (hk : s_K S a = 10) (hx : s_pR S 33 a (some v) = S1) (hn : nm = "<init>") (ho : (TX11 26).1 = own) (hl : Cond.fieldLink own index "ScoreHandlesModel" "turn" "[I" ∈ lw_all) (hdg : decode cc pc = .ok (.putfield index, 3)) (kk : ∀ (H1 : Heap) (locs1 : List Loc), wJ D Y A s S0 S1 H1 locs1 → W p l e R s m args below meth c H1 locs1 (s_nx S1 - s_nx S0) (s_sl S1 - s_sl S0) Q (F0 m (pc + 3) ls rest)) : W p l e R s m args below meth c H locs (s_nx S - s_nx S0) (s_sl S - s_sl S0) Q (F0 m pc ls (.ref v :: .ref a :: rest)) := by
  subst hx
  have h := hJ.2.1.at (a := a) (by rw [hk]; decide)
  rw [wE_X11 hk] at h
  refine jq_wrf hX h ly_X11 tyX11_ok nmX11 rfl (k := 26) (by decide) hl (Or.inr ⟨rfl, hn, ho⟩) (ty := (.array .int)) (by decide +kernel) rfl rfl (by show _ < _; simp) hJ.2.2 (hJ.2.1.2 a (by rw [hk]; decide)).2 hdg (fun H1 locs1 h1 hz hq hS1 => kk H1 locs1 ⟨hJ.1, hJ.2.1.set (a := a) (by rw [hk]; decide) rfl rfl (fun b hb => wE_pR S 33 a _ hb) ?_ hz hq, hS1⟩)
  rw [wE_X11 (S := s_pR S 33 a _) hk]
  simp only [I_pR, L_pR, R_pR, and_true, if_true, reduceIte, Nat.reduceEqDiff, false_and]
  exact h1
theorem pf_X11_saved {S0 S S1 : wS} {v : Nat} (hX : jq_X D Y aR A p s m args meth c cc own nm mx rt) (hJ : wJ D Y A s S0 S H locs) (hk : s_K S a = 10) (hx : s_pR S 34 a (some v) = S1) (hn : nm = "<init>") (ho : (TX11 27).1 = own) (hl : Cond.fieldLink own index "ScoreHandlesModel" "saved" "[I" ∈ lw_all) (hdg : decode cc pc = .ok (.putfield index, 3)) (kk : ∀ (H1 : Heap) (locs1 : List Loc), wJ D Y A s S0 S1 H1 locs1 → W p l e R s m args below meth c H1 locs1 (s_nx S1 - s_nx S0) (s_sl S1 - s_sl S0) Q (F0 m (pc + 3) ls rest)) : W p l e R s m args below meth c H locs (s_nx S - s_nx S0) (s_sl S - s_sl S0) Q (F0 m pc ls (.ref v :: .ref a :: rest)) := by
  subst hx
  have h := hJ.2.1.at (a := a) (by rw [hk]; decide)
  rw [wE_X11 hk] at h
  refine jq_wrf hX h ly_X11 tyX11_ok nmX11 rfl (k := 27) (by decide) hl (Or.inr ⟨rfl, hn, ho⟩) (ty := (.array .int)) (by decide +kernel) rfl rfl (by show _ < _; simp) hJ.2.2 (hJ.2.1.2 a (by rw [hk]; decide)).2 hdg (fun H1 locs1 h1 hz hq hS1 => kk H1 locs1 ⟨hJ.1, hJ.2.1.set (a := a) (by rw [hk]; decide) rfl rfl (fun b hb => wE_pR S 34 a _ hb) ?_ hz hq, hS1⟩)
  rw [wE_X11 (S := s_pR S 34 a _) hk]
  simp only [I_pR, L_pR, R_pR, and_true, if_true, reduceIte, Nat.reduceEqDiff, false_and]
  exact h1
theorem pf_X11_back {S0 S S1 : wS} {v : Int64} (hX : jq_X D Y aR A p s m args meth c cc own nm mx rt) (hJ : wJ D Y A s S0 S H locs) (hk : s_K S a = 10) (hx : s_pL S 3 a v = S1) (hl : Cond.fieldLink own index "ScoreHandlesModel" "back" "J" ∈ lw_all) (hdg : decode cc pc = .ok (.putfield index, 3)) (kk : ∀ (H1 : Heap) (locs1 : List Loc), wJ D Y A s S0 S1 H1 locs1 → W p l e R s m args below meth c H1 locs1 (s_nx S1 - s_nx S0) (s_sl S1 - s_sl S0) Q (F0 m (pc + 3) ls rest)) : W p l e R s m args below meth c H locs (s_nx S - s_nx S0) (s_sl S - s_sl S0) Q (F0 m pc ls (.long v :: .ref a :: rest)) := by
  subst hx
  have h := hJ.2.1.at (a := a) (by rw [hk]; decide)
  rw [wE_X11 hk] at h
  refine jq_wrf hX h ly_X11 tyX11_ok nmX11 rfl (k := 28) (by decide) hl (Or.inl rfl) (ty := .long) (by decide +kernel) rfl rfl (by show _ < _; simp) hJ.2.2 (hJ.2.1.2 a (by rw [hk]; decide)).2 hdg (fun H1 locs1 h1 hz hq hS1 => kk H1 locs1 ⟨hJ.1, hJ.2.1.set (a := a) (by rw [hk]; decide) rfl rfl (fun b hb => wE_pL S 3 a _ hb) ?_ hz hq, hS1⟩)
  rw [wE_X11 (S := s_pL S 3 a _) hk]
  simp only [I_pL, L_pL, R_pL, and_true, if_true, reduceIte, Nat.reduceEqDiff, false_and]
  exact h1
theorem pf_X11_failure {S0 S S1 : wS} {v : Int32} (hX : jq_X D Y aR A p s m args meth c cc own nm mx rt) (hJ : wJ D Y A s S0 S H locs) (hk : s_K S a = 10) (hx : s_pI S 23 a v = S1) (hl : Cond.fieldLink own index "ScoreHandlesModel" "failure" "I" ∈ lw_all) (hdg : decode cc pc = .ok (.putfield index, 3)) (kk : ∀ (H1 : Heap) (locs1 : List Loc), wJ D Y A s S0 S1 H1 locs1 → W p l e R s m args below meth c H1 locs1 (s_nx S1 - s_nx S0) (s_sl S1 - s_sl S0) Q (F0 m (pc + 3) ls rest)) : W p l e R s m args below meth c H locs (s_nx S - s_nx S0) (s_sl S - s_sl S0) Q (F0 m pc ls (.int v :: .ref a :: rest)) := by
  subst hx
  have h := hJ.2.1.at (a := a) (by rw [hk]; decide)
  rw [wE_X11 hk] at h
  refine jq_wrf hX h ly_X11 tyX11_ok nmX11 rfl (k := 29) (by decide) hl (Or.inl rfl) (ty := .int) (by decide +kernel) rfl rfl (by show _ < _; simp) hJ.2.2 (hJ.2.1.2 a (by rw [hk]; decide)).2 hdg (fun H1 locs1 h1 hz hq hS1 => kk H1 locs1 ⟨hJ.1, hJ.2.1.set (a := a) (by rw [hk]; decide) rfl rfl (fun b hb => wE_pI S 23 a _ hb) ?_ hz hq, hS1⟩)
  rw [wE_X11 (S := s_pI S 23 a _) hk]
  simp only [I_pI, L_pI, R_pI, and_true, if_true, reduceIte, Nat.reduceEqDiff, false_and]
  exact h1
theorem pf_X11_steps {S0 S S1 : wS} {v : Int32} (hX : jq_X D Y aR A p s m args meth c cc own nm mx rt) (hJ : wJ D Y A s S0 S H locs) (hk : s_K S a = 10) (hx : s_pI S 24 a v = S1) (hl : Cond.fieldLink own index "ScoreHandlesModel" "steps" "I" ∈ lw_all) (hdg : decode cc pc = .ok (.putfield index, 3)) (kk : ∀ (H1 : Heap) (locs1 : List Loc), wJ D Y A s S0 S1 H1 locs1 → W p l e R s m args below meth c H1 locs1 (s_nx S1 - s_nx S0) (s_sl S1 - s_sl S0) Q (F0 m (pc + 3) ls rest)) : W p l e R s m args below meth c H locs (s_nx S - s_nx S0) (s_sl S - s_sl S0) Q (F0 m pc ls (.int v :: .ref a :: rest)) := by
  subst hx
  have h := hJ.2.1.at (a := a) (by rw [hk]; decide)
  rw [wE_X11 hk] at h
  refine jq_wrf hX h ly_X11 tyX11_ok nmX11 rfl (k := 30) (by decide) hl (Or.inl rfl) (ty := .int) (by decide +kernel) rfl rfl (by show _ < _; simp) hJ.2.2 (hJ.2.1.2 a (by rw [hk]; decide)).2 hdg (fun H1 locs1 h1 hz hq hS1 => kk H1 locs1 ⟨hJ.1, hJ.2.1.set (a := a) (by rw [hk]; decide) rfl rfl (fun b hb => wE_pI S 24 a _ hb) ?_ hz hq, hS1⟩)
  rw [wE_X11 (S := s_pI S 24 a _) hk]
  simp only [I_pI, L_pI, R_pI, and_true, if_true, reduceIte, Nat.reduceEqDiff, false_and]
  exact h1
theorem pf_X11_failures {S0 S S1 : wS} {v : Int32} (hX : jq_X D Y aR A p s m args meth c cc own nm mx rt) (hJ : wJ D Y A s S0 S H locs) (hk : s_K S a = 10) (hx : s_pI S 25 a v = S1) (hl : Cond.fieldLink own index "ScoreHandlesModel" "failures" "I" ∈ lw_all) (hdg : decode cc pc = .ok (.putfield index, 3)) (kk : ∀ (H1 : Heap) (locs1 : List Loc), wJ D Y A s S0 S1 H1 locs1 → W p l e R s m args below meth c H1 locs1 (s_nx S1 - s_nx S0) (s_sl S1 - s_sl S0) Q (F0 m (pc + 3) ls rest)) : W p l e R s m args below meth c H locs (s_nx S - s_nx S0) (s_sl S - s_sl S0) Q (F0 m pc ls (.int v :: .ref a :: rest)) := by
  subst hx
  have h := hJ.2.1.at (a := a) (by rw [hk]; decide)
  rw [wE_X11 hk] at h
  refine jq_wrf hX h ly_X11 tyX11_ok nmX11 rfl (k := 31) (by decide) hl (Or.inl rfl) (ty := .int) (by decide +kernel) rfl rfl (by show _ < _; simp) hJ.2.2 (hJ.2.1.2 a (by rw [hk]; decide)).2 hdg (fun H1 locs1 h1 hz hq hS1 => kk H1 locs1 ⟨hJ.1, hJ.2.1.set (a := a) (by rw [hk]; decide) rfl rfl (fun b hb => wE_pI S 25 a _ hb) ?_ hz hq, hS1⟩)
  rw [wE_X11 (S := s_pI S 25 a _) hk]
  simp only [I_pI, L_pI, R_pI, and_true, if_true, reduceIte, Nat.reduceEqDiff, false_and]
  exact h1
theorem pf_X11_blamed {S0 S S1 : wS} {v : Int32} (hX : jq_X D Y aR A p s m args meth c cc own nm mx rt) (hJ : wJ D Y A s S0 S H locs) (hk : s_K S a = 10) (hx : s_pI S 26 a v = S1) (hl : Cond.fieldLink own index "ScoreHandlesModel" "blamed" "I" ∈ lw_all) (hdg : decode cc pc = .ok (.putfield index, 3)) (kk : ∀ (H1 : Heap) (locs1 : List Loc), wJ D Y A s S0 S1 H1 locs1 → W p l e R s m args below meth c H1 locs1 (s_nx S1 - s_nx S0) (s_sl S1 - s_sl S0) Q (F0 m (pc + 3) ls rest)) : W p l e R s m args below meth c H locs (s_nx S - s_nx S0) (s_sl S - s_sl S0) Q (F0 m pc ls (.int v :: .ref a :: rest)) := by
  subst hx
  have h := hJ.2.1.at (a := a) (by rw [hk]; decide)
  rw [wE_X11 hk] at h
  refine jq_wrf hX h ly_X11 tyX11_ok nmX11 rfl (k := 32) (by decide) hl (Or.inl rfl) (ty := .int) (by decide +kernel) rfl rfl (by show _ < _; simp) hJ.2.2 (hJ.2.1.2 a (by rw [hk]; decide)).2 hdg (fun H1 locs1 h1 hz hq hS1 => kk H1 locs1 ⟨hJ.1, hJ.2.1.set (a := a) (by rw [hk]; decide) rfl rfl (fun b hb => wE_pI S 26 a _ hb) ?_ hz hq, hS1⟩)
  rw [wE_X11 (S := s_pI S 26 a _) hk]
  simp only [I_pI, L_pI, R_pI, and_true, if_true, reduceIte, Nat.reduceEqDiff, false_and]
  exact h1
theorem pf_X11_runs {S0 S S1 : wS} {v : Int32} (hX : jq_X D Y aR A p s m args meth c cc own nm mx rt) (hJ : wJ D Y A s S0 S H locs) (hk : s_K S a = 10) (hx : s_pI S 27 a v = S1) (hl : Cond.fieldLink own index "ScoreHandlesModel" "runs" "I" ∈ lw_all) (hdg : decode cc pc = .ok (.putfield index, 3)) (kk : ∀ (H1 : Heap) (locs1 : List Loc), wJ D Y A s S0 S1 H1 locs1 → W p l e R s m args below meth c H1 locs1 (s_nx S1 - s_nx S0) (s_sl S1 - s_sl S0) Q (F0 m (pc + 3) ls rest)) : W p l e R s m args below meth c H locs (s_nx S - s_nx S0) (s_sl S - s_sl S0) Q (F0 m pc ls (.int v :: .ref a :: rest)) := by
  subst hx
  have h := hJ.2.1.at (a := a) (by rw [hk]; decide)
  rw [wE_X11 hk] at h
  refine jq_wrf hX h ly_X11 tyX11_ok nmX11 rfl (k := 33) (by decide) hl (Or.inl rfl) (ty := .int) (by decide +kernel) rfl rfl (by show _ < _; simp) hJ.2.2 (hJ.2.1.2 a (by rw [hk]; decide)).2 hdg (fun H1 locs1 h1 hz hq hS1 => kk H1 locs1 ⟨hJ.1, hJ.2.1.set (a := a) (by rw [hk]; decide) rfl rfl (fun b hb => wE_pI S 27 a _ hb) ?_ hz hq, hS1⟩)
  rw [wE_X11 (S := s_pI S 27 a _) hk]
  simp only [I_pI, L_pI, R_pI, and_true, if_true, reduceIte, Nat.reduceEqDiff, false_and]
  exact h1
theorem pf_X11_value {S0 S S1 : wS} {v : Int64} (hX : jq_X D Y aR A p s m args meth c cc own nm mx rt) (hJ : wJ D Y A s S0 S H locs) (hk : s_K S a = 10) (hx : s_pL S 4 a v = S1) (hl : Cond.fieldLink own index "ScoreHandlesModel" "value" "J" ∈ lw_all) (hdg : decode cc pc = .ok (.putfield index, 3)) (kk : ∀ (H1 : Heap) (locs1 : List Loc), wJ D Y A s S0 S1 H1 locs1 → W p l e R s m args below meth c H1 locs1 (s_nx S1 - s_nx S0) (s_sl S1 - s_sl S0) Q (F0 m (pc + 3) ls rest)) : W p l e R s m args below meth c H locs (s_nx S - s_nx S0) (s_sl S - s_sl S0) Q (F0 m pc ls (.long v :: .ref a :: rest)) := by
  subst hx
  have h := hJ.2.1.at (a := a) (by rw [hk]; decide)
  rw [wE_X11 hk] at h
  refine jq_wrf hX h ly_X11 tyX11_ok nmX11 rfl (k := 34) (by decide) hl (Or.inl rfl) (ty := .long) (by decide +kernel) rfl rfl (by show _ < _; simp) hJ.2.2 (hJ.2.1.2 a (by rw [hk]; decide)).2 hdg (fun H1 locs1 h1 hz hq hS1 => kk H1 locs1 ⟨hJ.1, hJ.2.1.set (a := a) (by rw [hk]; decide) rfl rfl (fun b hb => wE_pL S 4 a _ hb) ?_ hz hq, hS1⟩)
  rw [wE_X11 (S := s_pL S 4 a _) hk]
  simp only [I_pL, L_pL, R_pL, and_true, if_true, reduceIte, Nat.reduceEqDiff, false_and]
  exact h1
theorem pf_X11_hand {S0 S S1 : wS} {v : Nat} (hX : jq_X D Y aR A p s m args meth c cc own nm mx rt) (hJ : wJ D Y A s S0 S H locs) (hk : s_K S a = 10) (hx : s_pR S 35 a (some v) = S1) (hn : nm = "<init>") (ho : (TX11 35).1 = own) (hl : Cond.fieldLink own index "ScoreHandlesModel" "hand" "[J" ∈ lw_all) (hdg : decode cc pc = .ok (.putfield index, 3)) (kk : ∀ (H1 : Heap) (locs1 : List Loc), wJ D Y A s S0 S1 H1 locs1 → W p l e R s m args below meth c H1 locs1 (s_nx S1 - s_nx S0) (s_sl S1 - s_sl S0) Q (F0 m (pc + 3) ls rest)) : W p l e R s m args below meth c H locs (s_nx S - s_nx S0) (s_sl S - s_sl S0) Q (F0 m pc ls (.ref v :: .ref a :: rest)) := by
  subst hx
  have h := hJ.2.1.at (a := a) (by rw [hk]; decide)
  rw [wE_X11 hk] at h
  refine jq_wrf hX h ly_X11 tyX11_ok nmX11 rfl (k := 35) (by decide) hl (Or.inr ⟨rfl, hn, ho⟩) (ty := (.array .long)) (by decide +kernel) rfl rfl (by show _ < _; simp) hJ.2.2 (hJ.2.1.2 a (by rw [hk]; decide)).2 hdg (fun H1 locs1 h1 hz hq hS1 => kk H1 locs1 ⟨hJ.1, hJ.2.1.set (a := a) (by rw [hk]; decide) rfl rfl (fun b hb => wE_pR S 35 a _ hb) ?_ hz hq, hS1⟩)
  rw [wE_X11 (S := s_pR S 35 a _) hk]
  simp only [I_pR, L_pR, R_pR, and_true, if_true, reduceIte, Nat.reduceEqDiff, false_and]
  exact h1
theorem ga_I {S0 S : wS} {i : Int32} {x : Int32} (hX : jq_X D Y aR A p s m args meth c cc own nm mx rt) (hJ : wJ D Y A s S0 S H locs) (hk : s_K S a = 21 ∧ ¬ (i < 0 ∨ s_n S a ≤ i.toNatClampNeg)) (hx : s_aI S a i.toNatClampNeg = x) (hdg : decode cc pc = .ok (.iaload, 1)) (kk : W p l e R s m args below meth c H locs (s_nx S - s_nx S0) (s_sl S - s_sl S0) Q (F0 m (pc + 1) ls (.int x :: rest))) : W p l e R s m args below meth c H locs (s_nx S - s_nx S0) (s_sl S - s_sl S0) Q (F0 m pc ls (.int i :: .ref a :: rest)) := by
  have h := hJ.2.1.at (a := a) (by rw [hk.1]; decide)
  rw [wE_21 hk.1] at h
  subst hx
  exact va_iald hX.1 hX.2.1 hX.2.2.2.2.2.1.1 (jq_oneA h) 0 0 rfl rfl hk.2 hdg kk
theorem wa_I {S0 S S1 : wS} {i : Int32} {v : Int32} (hX : jq_X D Y aR A p s m args meth c cc own nm mx rt) (hJ : wJ D Y A s S0 S H locs) (hk : s_K S a = 21 ∧ ¬ (i < 0 ∨ s_n S a ≤ i.toNatClampNeg)) (hx : s_wI S a i.toNatClampNeg v = S1) (hdg : decode cc pc = .ok (.iastore, 1)) (kk : ∀ (H1 : Heap) (locs1 : List Loc), wJ D Y A s S0 S1 H1 locs1 → W p l e R s m args below meth c H1 locs1 (s_nx S1 - s_nx S0) (s_sl S1 - s_sl S0) Q (F0 m (pc + 1) ls rest)) : W p l e R s m args below meth c H locs (s_nx S - s_nx S0) (s_sl S - s_sl S0) Q (F0 m pc ls (.int v :: .int i :: .ref a :: rest)) := by
  subst hx
  have h := hJ.2.1.at (a := a) (by rw [hk.1]; decide)
  rw [wE_21 hk.1] at h
  refine W.iast hX.1 hX.2.1 h ((hX.2.2.2.2.2.1.1.2 0 _ rfl).1 _ (fun j => .int (s_aI S a j))) (fun q => by cases q) (by show ¬ (i < 0 ∨ (arrV _ _ _).slots.size ≤ _); rw [arrV_size]; exact hk.2) rfl rfl hdg fun H1 e z oq => ?_
  refine kk H1 _ ⟨hJ.1, hJ.2.1.set (a := a) (by rw [hk.1]; decide) rfl rfl (fun b hb => wE_wI S a _ _ hb) ?_ z oq, hJ.2.2.put z oq (hJ.2.1.2 a (by rw [hk.1]; decide)).2⟩
  rw [wE_21 (S := s_wI S a _ _) hk.1]
  show H1[a]? = some (vp_cell _ _)
  rw [e]
  show some ((arrV (Y 0) (s_n S a) (fun j => .int (s_aI S a j))).setSlot i.toNatClampNeg (.int v)) = some (arrV (Y 0) (s_n S a) (fun j => .int (s_aI (s_wI S a i.toNatClampNeg v) a j)))
  rw [arrV_store]
  congr 2
  funext q
  by_cases hq : q = i.toNatClampNeg
  · subst hq; simp [updV, aI_wI]
  · simp [updV, aI_wI, hq]
  
theorem ga_L {S0 S : wS} {i : Int32} {x : Int64} (hX : jq_X D Y aR A p s m args meth c cc own nm mx rt) (hJ : wJ D Y A s S0 S H locs) (hk : s_K S a = 22 ∧ ¬ (i < 0 ∨ s_n S a ≤ i.toNatClampNeg)) (hx : s_aL S a i.toNatClampNeg = x) (hdg : decode cc pc = .ok (.laload, 1)) (kk : W p l e R s m args below meth c H locs (s_nx S - s_nx S0) (s_sl S - s_sl S0) Q (F0 m (pc + 1) ls (.long x :: rest))) : W p l e R s m args below meth c H locs (s_nx S - s_nx S0) (s_sl S - s_sl S0) Q (F0 m pc ls (.int i :: .ref a :: rest)) := by
  have h := hJ.2.1.at (a := a) (by rw [hk.1]; decide)
  rw [wE_22 hk.1] at h
  subst hx
  exact va_lald hX.1 hX.2.1 hX.2.2.2.2.2.1.1 (jq_oneA h) 0 1 rfl rfl hk.2 hdg kk
theorem wa_L {S0 S S1 : wS} {i : Int32} {v : Int64} (hX : jq_X D Y aR A p s m args meth c cc own nm mx rt) (hJ : wJ D Y A s S0 S H locs) (hk : s_K S a = 22 ∧ ¬ (i < 0 ∨ s_n S a ≤ i.toNatClampNeg)) (hx : s_wL S a i.toNatClampNeg v = S1) (hdg : decode cc pc = .ok (.lastore, 1)) (kk : ∀ (H1 : Heap) (locs1 : List Loc), wJ D Y A s S0 S1 H1 locs1 → W p l e R s m args below meth c H1 locs1 (s_nx S1 - s_nx S0) (s_sl S1 - s_sl S0) Q (F0 m (pc + 1) ls rest)) : W p l e R s m args below meth c H locs (s_nx S - s_nx S0) (s_sl S - s_sl S0) Q (F0 m pc ls (.long v :: .int i :: .ref a :: rest)) := by
  subst hx
  have h := hJ.2.1.at (a := a) (by rw [hk.1]; decide)
  rw [wE_22 hk.1] at h
  refine W.last hX.1 hX.2.1 h ((hX.2.2.2.2.2.1.1.2 1 _ rfl).1 _ (fun j => .long (s_aL S a j))) (fun q => by cases q) (by show ¬ (i < 0 ∨ (arrV _ _ _).slots.size ≤ _); rw [arrV_size]; exact hk.2) rfl rfl hdg fun H1 e z oq => ?_
  refine kk H1 _ ⟨hJ.1, hJ.2.1.set (a := a) (by rw [hk.1]; decide) rfl rfl (fun b hb => wE_wL S a _ _ hb) ?_ z oq, hJ.2.2.put z oq (hJ.2.1.2 a (by rw [hk.1]; decide)).2⟩
  rw [wE_22 (S := s_wL S a _ _) hk.1]
  show H1[a]? = some (vp_cell _ _)
  rw [e]
  show some ((arrV (Y 1) (s_n S a) (fun j => .long (s_aL S a j))).setSlot i.toNatClampNeg (.long v)) = some (arrV (Y 1) (s_n S a) (fun j => .long (s_aL (s_wL S a i.toNatClampNeg v) a j)))
  rw [arrV_store]
  congr 2
  funext q
  by_cases hq : q = i.toNatClampNeg
  · subst hq; simp [updV, aL_wL]
  · simp [updV, aL_wL, hq]
  
theorem ga_H {S0 S : wS} {i : Int32} {x : Option Nat} (hX : jq_X D Y aR A p s m args meth c cc own nm mx rt) (hJ : wJ D Y A s S0 S H locs) (hk : s_K S a = 23 ∧ ¬ (i < 0 ∨ s_n S a ≤ i.toNatClampNeg)) (hx : s_aR S a i.toNatClampNeg = x) (hdg : decode cc pc = .ok (.aaload, 1)) (kk : W p l e R s m args below meth c H locs (s_nx S - s_nx S0) (s_sl S - s_sl S0) Q (F0 m (pc + 1) ls (va_rf x :: rest))) : W p l e R s m args below meth c H locs (s_nx S - s_nx S0) (s_sl S - s_sl S0) Q (F0 m pc ls (.int i :: .ref a :: rest)) := by
  have h := hJ.2.1.at (a := a) (by rw [hk.1]; decide)
  rw [wE_23 hk.1] at h
  subst hx
  exact va_aldq (C := "ScoreHandles$Handle") hX.1 hX.2.1 hX.2.2.2.2.2.1.1 (jq_oneA h) 0 2 rfl rfl hk.2 hdg kk
theorem wa_H {S0 S S1 : wS} {i : Int32} {v : Nat} (hX : jq_X D Y aR A p s m args meth c cc own nm mx rt) (hJ : wJ D Y A s S0 S H locs) (hk : (s_K S a = 23 ∧ s_K S v = 1) ∧ ¬ (i < 0 ∨ s_n S a ≤ i.toNatClampNeg)) (hx : s_wR S a i.toNatClampNeg (some v) = S1) (hdg : decode cc pc = .ok (.aastore, 1)) (kk : ∀ (H1 : Heap) (locs1 : List Loc), wJ D Y A s S0 S1 H1 locs1 → W p l e R s m args below meth c H1 locs1 (s_nx S1 - s_nx S0) (s_sl S1 - s_sl S0) Q (F0 m (pc + 1) ls rest)) : W p l e R s m args below meth c H locs (s_nx S - s_nx S0) (s_sl S - s_sl S0) Q (F0 m pc ls (.ref v :: .int i :: .ref a :: rest)) := by
  subst hx
  have h := hJ.2.1.at (a := a) (by rw [hk.1.1]; decide)
  rw [wE_23 hk.1.1] at h
  have hv := hJ.2.1.at (a := v) (by rw [hk.1.2]; decide)
  rw [wE_X0 hk.1.2] at hv
  have hK := hX.2.2.2.2.2.1.1
  have hlt : i.toNatClampNeg < s_n S a := Nat.not_le.mp fun q => hk.2 (Or.inr q)
  have h0 : ¬ i < 0 := fun q => hk.2 (Or.inl q)
  obtain ⟨r', hr', cellV, g1, g2, g3, -⟩ := hv
  have hcls := (hK.1 0 _ rfl).2
  obtain ⟨kA, comp, k1, k2, k3, -⟩ := (hK.2 2 _ rfl).2
  have hcomp : comp = D.1 0 := Option.some.inj (k3.symm.trans hcls.1)
  subst hcomp
  obtain ⟨kC, hkC, -⟩ := hcls.2
  refine W.aast hX.1 hX.2.1 h (fun q h => by cases h) (fun h => by cases h) k1 k2 rfl hkC ⟨h0, by show _ < (arrV _ _ _).slots.size; rw [arrV_size]; exact hlt⟩ g1 (fun q h => by rw [g3] at h; cases h) (by rw [g2]; exact hkC) (by rw [g2]; exact va_assign hcls) rfl rfl hdg fun H1 e z oq => ?_
  refine kk H1 _ ⟨hJ.1, hJ.2.1.set (a := a) (by rw [hk.1.1]; decide) rfl rfl (fun b hb => wE_wR S a _ _ hb) ?_ z oq, hJ.2.2.put z oq (hJ.2.1.2 a (by rw [hk.1.1]; decide)).2⟩
  rw [wE_23 (S := s_wR S a _ _) hk.1.1]
  show H1[a]? = some (vp_cell _ _)
  rw [e]
  show some ((arrV (Y 2) (s_n S a) (fun j => va_rf (s_aR S a j))).setSlot i.toNatClampNeg (.ref v)) = some (arrV (Y 2) (s_n S a) (fun j => va_rf (s_aR (s_wR S a i.toNatClampNeg (some v)) a j)))
  rw [arrV_store]
  congr 2
  funext q
  by_cases hq : q = i.toNatClampNeg
  · subst hq; simp [updV, aR_wR, va_rf]
  · simp [updV, aR_wR, hq]
theorem ga_W {S0 S : wS} {i : Int32} {x : Option Nat} (hX : jq_X D Y aR A p s m args meth c cc own nm mx rt) (hJ : wJ D Y A s S0 S H locs) (hk : s_K S a = 24 ∧ ¬ (i < 0 ∨ s_n S a ≤ i.toNatClampNeg)) (hx : s_aR S a i.toNatClampNeg = x) (hdg : decode cc pc = .ok (.aaload, 1)) (kk : W p l e R s m args below meth c H locs (s_nx S - s_nx S0) (s_sl S - s_sl S0) Q (F0 m (pc + 1) ls (va_rf x :: rest))) : W p l e R s m args below meth c H locs (s_nx S - s_nx S0) (s_sl S - s_sl S0) Q (F0 m pc ls (.int i :: .ref a :: rest)) := by
  have h := hJ.2.1.at (a := a) (by rw [hk.1]; decide)
  rw [wE_24 hk.1] at h
  subst hx
  exact va_aldq (C := "ScoreHandles$Row") hX.1 hX.2.1 hX.2.2.2.2.2.1.1 (jq_oneA h) 0 3 rfl rfl hk.2 hdg kk
theorem wa_W {S0 S S1 : wS} {i : Int32} {v : Nat} (hX : jq_X D Y aR A p s m args meth c cc own nm mx rt) (hJ : wJ D Y A s S0 S H locs) (hk : (s_K S a = 24 ∧ s_K S v = 5) ∧ ¬ (i < 0 ∨ s_n S a ≤ i.toNatClampNeg)) (hx : s_wR S a i.toNatClampNeg (some v) = S1) (hdg : decode cc pc = .ok (.aastore, 1)) (kk : ∀ (H1 : Heap) (locs1 : List Loc), wJ D Y A s S0 S1 H1 locs1 → W p l e R s m args below meth c H1 locs1 (s_nx S1 - s_nx S0) (s_sl S1 - s_sl S0) Q (F0 m (pc + 1) ls rest)) : W p l e R s m args below meth c H locs (s_nx S - s_nx S0) (s_sl S - s_sl S0) Q (F0 m pc ls (.ref v :: .int i :: .ref a :: rest)) := by
  subst hx
  have h := hJ.2.1.at (a := a) (by rw [hk.1.1]; decide)
  rw [wE_24 hk.1.1] at h
  have hv := hJ.2.1.at (a := v) (by rw [hk.1.2]; decide)
  rw [wE_X5 hk.1.2] at hv
  have hK := hX.2.2.2.2.2.1.1
  have hlt : i.toNatClampNeg < s_n S a := Nat.not_le.mp fun q => hk.2 (Or.inr q)
  have h0 : ¬ i < 0 := fun q => hk.2 (Or.inl q)
  obtain ⟨r', hr', cellV, g1, g2, g3, -⟩ := hv
  have hcls := (hK.1 4 _ rfl).2
  obtain ⟨kA, comp, k1, k2, k3, -⟩ := (hK.2 3 _ rfl).2
  have hcomp : comp = D.1 4 := Option.some.inj (k3.symm.trans hcls.1)
  subst hcomp
  obtain ⟨kC, hkC, -⟩ := hcls.2
  refine W.aast hX.1 hX.2.1 h (fun q h => by cases h) (fun h => by cases h) k1 k2 rfl hkC ⟨h0, by show _ < (arrV _ _ _).slots.size; rw [arrV_size]; exact hlt⟩ g1 (fun q h => by rw [g3] at h; cases h) (by rw [g2]; exact hkC) (by rw [g2]; exact va_assign hcls) rfl rfl hdg fun H1 e z oq => ?_
  refine kk H1 _ ⟨hJ.1, hJ.2.1.set (a := a) (by rw [hk.1.1]; decide) rfl rfl (fun b hb => wE_wR S a _ _ hb) ?_ z oq, hJ.2.2.put z oq (hJ.2.1.2 a (by rw [hk.1.1]; decide)).2⟩
  rw [wE_24 (S := s_wR S a _ _) hk.1.1]
  show H1[a]? = some (vp_cell _ _)
  rw [e]
  show some ((arrV (Y 3) (s_n S a) (fun j => va_rf (s_aR S a j))).setSlot i.toNatClampNeg (.ref v)) = some (arrV (Y 3) (s_n S a) (fun j => va_rf (s_aR (s_wR S a i.toNatClampNeg (some v)) a j)))
  rw [arrV_store]
  congr 2
  funext q
  by_cases hq : q = i.toNatClampNeg
  · subst hq; simp [updV, aR_wR, va_rf]
  · simp [updV, aR_wR, hq]
theorem gl_I {S0 S : wS} {x : Int32} (hX : jq_X D Y aR A p s m args meth c cc own nm mx rt) (hJ : wJ D Y A s S0 S H locs) (hk : s_K S a = 21) (hx : Int32.ofNat (s_n S a) = x) (hdg : decode cc pc = .ok (.arraylength, 1)) (kk : W p l e R s m args below meth c H locs (s_nx S - s_nx S0) (s_sl S - s_sl S0) Q (F0 m (pc + 1) ls (.int x :: rest))) : W p l e R s m args below meth c H locs (s_nx S - s_nx S0) (s_sl S - s_sl S0) Q (F0 m pc ls (.ref a :: rest)) := by
  have h := hJ.2.1.at (a := a) (by rw [hk]; decide)
  rw [wE_21 hk] at h
  exact va_alen hX.1 hX.2.1 hX.2.2.2.2.2.1.1 (jq_oneA h) 0 0 rfl (ty := .int) rfl hx hdg kk
theorem gl_L {S0 S : wS} {x : Int32} (hX : jq_X D Y aR A p s m args meth c cc own nm mx rt) (hJ : wJ D Y A s S0 S H locs) (hk : s_K S a = 22) (hx : Int32.ofNat (s_n S a) = x) (hdg : decode cc pc = .ok (.arraylength, 1)) (kk : W p l e R s m args below meth c H locs (s_nx S - s_nx S0) (s_sl S - s_sl S0) Q (F0 m (pc + 1) ls (.int x :: rest))) : W p l e R s m args below meth c H locs (s_nx S - s_nx S0) (s_sl S - s_sl S0) Q (F0 m pc ls (.ref a :: rest)) := by
  have h := hJ.2.1.at (a := a) (by rw [hk]; decide)
  rw [wE_22 hk] at h
  exact va_alen hX.1 hX.2.1 hX.2.2.2.2.2.1.1 (jq_oneA h) 0 1 rfl (ty := .long) rfl hx hdg kk
theorem gl_H {S0 S : wS} {x : Int32} (hX : jq_X D Y aR A p s m args meth c cc own nm mx rt) (hJ : wJ D Y A s S0 S H locs) (hk : s_K S a = 23) (hx : Int32.ofNat (s_n S a) = x) (hdg : decode cc pc = .ok (.arraylength, 1)) (kk : W p l e R s m args below meth c H locs (s_nx S - s_nx S0) (s_sl S - s_sl S0) Q (F0 m (pc + 1) ls (.int x :: rest))) : W p l e R s m args below meth c H locs (s_nx S - s_nx S0) (s_sl S - s_sl S0) Q (F0 m pc ls (.ref a :: rest)) := by
  have h := hJ.2.1.at (a := a) (by rw [hk]; decide)
  rw [wE_23 hk] at h
  exact va_alen hX.1 hX.2.1 hX.2.2.2.2.2.1.1 (jq_oneA h) 0 2 rfl (ty := (.object "ScoreHandles$Handle")) rfl hx hdg kk
theorem gl_W {S0 S : wS} {x : Int32} (hX : jq_X D Y aR A p s m args meth c cc own nm mx rt) (hJ : wJ D Y A s S0 S H locs) (hk : s_K S a = 24) (hx : Int32.ofNat (s_n S a) = x) (hdg : decode cc pc = .ok (.arraylength, 1)) (kk : W p l e R s m args below meth c H locs (s_nx S - s_nx S0) (s_sl S - s_sl S0) Q (F0 m (pc + 1) ls (.int x :: rest))) : W p l e R s m args below meth c H locs (s_nx S - s_nx S0) (s_sl S - s_sl S0) Q (F0 m pc ls (.ref a :: rest)) := by
  have h := hJ.2.1.at (a := a) (by rw [hk]; decide)
  rw [wE_24 hk] at h
  exact va_alen hX.1 hX.2.1 hX.2.2.2.2.2.1.1 (jq_oneA h) 0 3 rfl (ty := (.object "ScoreHandles$Row")) rfl hx hdg kk
end JD
end
section
/-! new objects and arrays -/
section NW
variable {p : Program} {l : Launch} {e : Env} {R : Room} {s : State} {m : MethodId} {args : Array Value} {below : List Frame} {meth : Method} {c : Code} {H : Heap} {locs : List Loc} {cells slots : Nat} {Q : State → Prop}
variable {D : va_G} {Y : Nat → ClassId} {aR : Nat → Nat} {A : Nat → Prop} {cc : ByteArray} {own nm : String} {mx : Nat} {rt : Option FieldType} {pc : Nat} {ls : Array Slot} {st rest : List Value} {a index : Nat}
theorem jq_newO {ci N : Nat} {C : String} {T : u_T} {ty : Nat → FieldType} {fs : List Value} (hX : jq_X D Y aR A p s m args meth c cc own nm mx rt) (hS : va_S A s.heap H locs) (hin : ∀ w ∈ u_ws C T N, w ∈ lw_all) (hty : ∀ k, k < N → parseFieldDescriptor (T k).2.2.1 = some (ty k)) (hc : vwCl[ci]? = some (C, T, N)) (hcl : Cond.classLink own index C ∈ lw_all) (hins : Cond.instantiable C N ∈ lw_all) (hini : Cond.initialized C ∈ lw_all) (hfs : ∀ j, j < N → defaultValue (ty j) = vp_V fs j) (hcells : cells + 1 ≤ R.cells) (hslots : slots + N ≤ R.slots) (hdg : decode cc pc = .ok (.new index, 3))
    (kk : ∀ H1 : Heap, va_at D vwCl (H.size, .inr (ci, fs)) H1 → H1.size = H.size + 1 → (∀ q : Nat, q < H.size → H1[q]? = H[q]?) → va_S A s.heap H1 locs → A H.size → W p l e R s m args below meth c H1 locs (cells + 1) (slots + N) Q (F0 m (pc + 3) ls (.ref H.size :: rest))) : W p l e R s m args below meth c H locs cells slots Q (F0 m pc ls rest) := by
  obtain ⟨hx, hb, -, hown, hts, hK, -⟩ := hX
  have hKn := hK.1.1 ci _ hc
  refine W.newcK hx hb hown (hts _ hcl) (hts _ hins) (hts _ hini) rfl hdg hcells hslots hKn.2.1 rfl fun H1 kC hkC e1 z1 o1 => ?_
  exact kk H1 ⟨_, hc, (u_born ty hts hin hKn hkC e1 hty).to hfs⟩ z1 o1 ⟨Nat.le_trans hS.1 (by omega), fun x h1 h2 => (o1 x (Nat.lt_of_lt_of_le h1 hS.1)).trans (hS.2.1 x h1 h2), hS.2.2⟩ (hK.2.2.2.2.1 _ hS.1)
theorem wH.push {S S1 : wS} {H1 : Heap} (hH : wH D Y A S H) (hx : s_nx S1 = s_nx S + 1) (hK : ∀ b, b ≠ s_nx S → s_K S1 b = s_K S b) (ho : ∀ b, b ≠ s_nx S → wE Y S1 b = wE Y S b) (h1 : va_at D vwCl (s_nx S, wE Y S1 (s_nx S)) H1) (hz : H1.size = H.size + 1) (hq : ∀ q : Nat, q < H.size → H1[q]? = H[q]?) (hA : A (s_nx S)) : wH D Y A S1 H1 := by
  refine ⟨by rw [hz, hx, hH.1], fun b hb => ?_⟩
  by_cases hba : b = s_nx S
  · subst hba; exact ⟨h1, hA⟩
  · rw [hK b hba] at hb
    rw [ho b hba]
    exact ⟨(hH.2 b hb).1.kept (hq b ((hH.2 b hb).1.lt)), (hH.2 b hb).2⟩
theorem wG.step {S0 S S1 : wS} {N : Nat} (h : wG S0 S) (hok : s_nx S + 1 ≤ s_lm S ∧ s_sl S + N ≤ s_sm S) (h1 : s_nx S1 = s_nx S + 1) (h2 : s_lm S1 = s_lm S) (h3 : s_sl S1 = s_sl S + N) (h4 : s_sm S1 = s_sm S) : wG S0 S1 := by
  obtain ⟨a1, a2, a3, a4, a5, a6⟩ := h
  exact ⟨by omega, by omega, by omega, by omega, by omega, by omega⟩
variable {S0 S S1 : wS} {q FR LO : Nat}
theorem nw_X0 (hX : jq_X D Y aR A p s m args meth c cc own nm mx rt) (hJ : wJ D Y A s S0 S H locs) (hok : s_nx S + 1 ≤ s_lm S ∧ s_sl S + 7 ≤ s_sm S) (hq : s_nx S = q) (hx : s_new S 1 7 = S1) (hcl : Cond.classLink own index "ScoreHandles$Handle" ∈ lw_all) (hdg : decode cc pc = .ok (.new index, 3)) (kk : ∀ H1 : Heap, wJ D Y A s S0 S1 H1 locs → W p l e { frames := FR, cells := s_lm S0 - s_nx S0, slots := s_sm S0 - s_sl S0, locals := LO } s m args below meth c H1 locs (s_nx S1 - s_nx S0) (s_sl S1 - s_sl S0) Q (F0 m (pc + 3) ls (.ref q :: rest))) : W p l e { frames := FR, cells := s_lm S0 - s_nx S0, slots := s_sm S0 - s_sl S0, locals := LO } s m args below meth c H locs (s_nx S - s_nx S0) (s_sl S - s_sl S0) Q (F0 m pc ls rest) := by
  subst hx; subst hq
  obtain ⟨hg, hH, hS⟩ := hJ
  obtain ⟨g1, g2, g3, g4, g5, g6⟩ := id hg
  refine jq_newO (ci := 0) (C := RX0) (T := TX0) (N := 7) (fs := [.int 0, .int 0, .int 0, .int 0, .long 0, .null, .int 0]) hX hS ly_X0 tyX0_ok rfl hcl qw256 qw13 (fun j hj => by
    match j, hj with
    | 0, _ => rfl
    | 1, _ => rfl
    | 2, _ => rfl
    | 3, _ => rfl
    | 4, _ => rfl
    | 5, _ => rfl
    | 6, _ => rfl
    | k + 7, hk => exact absurd hk (by omega)) (by show s_nx S - s_nx S0 + 1 ≤ s_lm S0 - s_nx S0; omega) (by show s_sl S - s_sl S0 + 7 ≤ s_sm S0 - s_sl S0; omega) hdg (fun H1 h1 z1 o1 hS1 hA => ?_)
  rw [hH.1] at h1 hA
  have hK1 : s_K (s_new S 1 7) (s_nx S) = 1 := if_pos rfl
  have hJ1 : wJ D Y A s S0 (s_new S 1 7) H1 locs := ⟨hg.step hok rfl rfl rfl rfl, hH.push rfl (fun b hb => if_neg hb) (fun b hb => wE_new S _ _ hb) (by
    rw [wE_X0 hK1]
    simp only [I_new, L_new, R_new, if_true, reduceIte, va_rf]
    exact h1) z1 o1 hA, hS1⟩
  have k := kk H1 hJ1
  rw [hH.1]
  exact W.cs (show s_nx S - s_nx S0 + 1 = s_nx S + 1 - s_nx S0 by omega) (show s_sl S - s_sl S0 + 7 = s_sl S + 7 - s_sl S0 by omega) k
theorem nw_X1 (hX : jq_X D Y aR A p s m args meth c cc own nm mx rt) (hJ : wJ D Y A s S0 S H locs) (hok : s_nx S + 1 ≤ s_lm S ∧ s_sl S + 2 ≤ s_sm S) (hq : s_nx S = q) (hx : s_new S 2 2 = S1) (hcl : Cond.classLink own index "ScoreHandles$Handles" ∈ lw_all) (hdg : decode cc pc = .ok (.new index, 3)) (kk : ∀ H1 : Heap, wJ D Y A s S0 S1 H1 locs → W p l e { frames := FR, cells := s_lm S0 - s_nx S0, slots := s_sm S0 - s_sl S0, locals := LO } s m args below meth c H1 locs (s_nx S1 - s_nx S0) (s_sl S1 - s_sl S0) Q (F0 m (pc + 3) ls (.ref q :: rest))) : W p l e { frames := FR, cells := s_lm S0 - s_nx S0, slots := s_sm S0 - s_sl S0, locals := LO } s m args below meth c H locs (s_nx S - s_nx S0) (s_sl S - s_sl S0) Q (F0 m pc ls rest) := by
  subst hx; subst hq
  obtain ⟨hg, hH, hS⟩ := hJ
  obtain ⟨g1, g2, g3, g4, g5, g6⟩ := id hg
  refine jq_newO (ci := 1) (C := RX1) (T := TX1) (N := 2) (fs := [.null, .int 0]) hX hS ly_X1 tyX1_ok rfl hcl qw42 qw3 (fun j hj => by
    match j, hj with
    | 0, _ => rfl
    | 1, _ => rfl
    | k + 2, hk => exact absurd hk (by omega)) (by show s_nx S - s_nx S0 + 1 ≤ s_lm S0 - s_nx S0; omega) (by show s_sl S - s_sl S0 + 2 ≤ s_sm S0 - s_sl S0; omega) hdg (fun H1 h1 z1 o1 hS1 hA => ?_)
  rw [hH.1] at h1 hA
  have hK1 : s_K (s_new S 2 2) (s_nx S) = 2 := if_pos rfl
  have hJ1 : wJ D Y A s S0 (s_new S 2 2) H1 locs := ⟨hg.step hok rfl rfl rfl rfl, hH.push rfl (fun b hb => if_neg hb) (fun b hb => wE_new S _ _ hb) (by
    rw [wE_X1 hK1]
    simp only [I_new, L_new, R_new, if_true, reduceIte, va_rf]
    exact h1) z1 o1 hA, hS1⟩
  have k := kk H1 hJ1
  rw [hH.1]
  exact W.cs (show s_nx S - s_nx S0 + 1 = s_nx S + 1 - s_nx S0 by omega) (show s_sl S - s_sl S0 + 2 = s_sl S + 2 - s_sl S0 by omega) k
theorem nw_X3 (hX : jq_X D Y aR A p s m args meth c cc own nm mx rt) (hJ : wJ D Y A s S0 S H locs) (hok : s_nx S + 1 ≤ s_lm S ∧ s_sl S + 2 ≤ s_sm S) (hq : s_nx S = q) (hx : s_new S 3 2 = S1) (hcl : Cond.classLink own index "ScoreHandles$Maker" ∈ lw_all) (hdg : decode cc pc = .ok (.new index, 3)) (kk : ∀ H1 : Heap, wJ D Y A s S0 S1 H1 locs → W p l e { frames := FR, cells := s_lm S0 - s_nx S0, slots := s_sm S0 - s_sl S0, locals := LO } s m args below meth c H1 locs (s_nx S1 - s_nx S0) (s_sl S1 - s_sl S0) Q (F0 m (pc + 3) ls (.ref q :: rest))) : W p l e { frames := FR, cells := s_lm S0 - s_nx S0, slots := s_sm S0 - s_sl S0, locals := LO } s m args below meth c H locs (s_nx S - s_nx S0) (s_sl S - s_sl S0) Q (F0 m pc ls rest) := by
  subst hx; subst hq
  obtain ⟨hg, hH, hS⟩ := hJ
  obtain ⟨g1, g2, g3, g4, g5, g6⟩ := id hg
  refine jq_newO (ci := 2) (C := RX3) (T := TX3) (N := 2) (fs := [.null, .null]) hX hS ly_X3 tyX3_ok rfl hcl qw58 qw4 (fun j hj => by
    match j, hj with
    | 0, _ => rfl
    | 1, _ => rfl
    | k + 2, hk => exact absurd hk (by omega)) (by show s_nx S - s_nx S0 + 1 ≤ s_lm S0 - s_nx S0; omega) (by show s_sl S - s_sl S0 + 2 ≤ s_sm S0 - s_sl S0; omega) hdg (fun H1 h1 z1 o1 hS1 hA => ?_)
  rw [hH.1] at h1 hA
  have hK1 : s_K (s_new S 3 2) (s_nx S) = 3 := if_pos rfl
  have hJ1 : wJ D Y A s S0 (s_new S 3 2) H1 locs := ⟨hg.step hok rfl rfl rfl rfl, hH.push rfl (fun b hb => if_neg hb) (fun b hb => wE_new S _ _ hb) (by
    rw [wE_X3 hK1]
    simp only [I_new, L_new, R_new, if_true, reduceIte, va_rf]
    exact h1) z1 o1 hA, hS1⟩
  have k := kk H1 hJ1
  rw [hH.1]
  exact W.cs (show s_nx S - s_nx S0 + 1 = s_nx S + 1 - s_nx S0 by omega) (show s_sl S - s_sl S0 + 2 = s_sl S + 2 - s_sl S0 by omega) k
theorem nw_X5 (hX : jq_X D Y aR A p s m args meth c cc own nm mx rt) (hJ : wJ D Y A s S0 S H locs) (hok : s_nx S + 1 ≤ s_lm S ∧ s_sl S + 2 ≤ s_sm S) (hq : s_nx S = q) (hx : s_new S 5 2 = S1) (hcl : Cond.classLink own index "ScoreHandles$Row" ∈ lw_all) (hdg : decode cc pc = .ok (.new index, 3)) (kk : ∀ H1 : Heap, wJ D Y A s S0 S1 H1 locs → W p l e { frames := FR, cells := s_lm S0 - s_nx S0, slots := s_sm S0 - s_sl S0, locals := LO } s m args below meth c H1 locs (s_nx S1 - s_nx S0) (s_sl S1 - s_sl S0) Q (F0 m (pc + 3) ls (.ref q :: rest))) : W p l e { frames := FR, cells := s_lm S0 - s_nx S0, slots := s_sm S0 - s_sl S0, locals := LO } s m args below meth c H locs (s_nx S - s_nx S0) (s_sl S - s_sl S0) Q (F0 m pc ls rest) := by
  subst hx; subst hq
  obtain ⟨hg, hH, hS⟩ := hJ
  obtain ⟨g1, g2, g3, g4, g5, g6⟩ := id hg
  refine jq_newO (ci := 4) (C := RX5) (T := TX5) (N := 2) (fs := [.int 0, .null]) hX hS ly_X5 tyX5_ok rfl hcl qw162 qw9 (fun j hj => by
    match j, hj with
    | 0, _ => rfl
    | 1, _ => rfl
    | k + 2, hk => exact absurd hk (by omega)) (by show s_nx S - s_nx S0 + 1 ≤ s_lm S0 - s_nx S0; omega) (by show s_sl S - s_sl S0 + 2 ≤ s_sm S0 - s_sl S0; omega) hdg (fun H1 h1 z1 o1 hS1 hA => ?_)
  rw [hH.1] at h1 hA
  have hK1 : s_K (s_new S 5 2) (s_nx S) = 5 := if_pos rfl
  have hJ1 : wJ D Y A s S0 (s_new S 5 2) H1 locs := ⟨hg.step hok rfl rfl rfl rfl, hH.push rfl (fun b hb => if_neg hb) (fun b hb => wE_new S _ _ hb) (by
    rw [wE_X5 hK1]
    simp only [I_new, L_new, R_new, if_true, reduceIte, va_rf]
    exact h1) z1 o1 hA, hS1⟩
  have k := kk H1 hJ1
  rw [hH.1]
  exact W.cs (show s_nx S - s_nx S0 + 1 = s_nx S + 1 - s_nx S0 by omega) (show s_sl S - s_sl S0 + 2 = s_sl S + 2 - s_sl S0 by omega) k
theorem nw_X6 (hX : jq_X D Y aR A p s m args meth c cc own nm mx rt) (hJ : wJ D Y A s S0 S H locs) (hok : s_nx S + 1 ≤ s_lm S ∧ s_sl S + 2 ≤ s_sm S) (hq : s_nx S = q) (hx : s_new S 6 2 = S1) (hcl : Cond.classLink own index "ScoreHandles$Rows" ∈ lw_all) (hdg : decode cc pc = .ok (.new index, 3)) (kk : ∀ H1 : Heap, wJ D Y A s S0 S1 H1 locs → W p l e { frames := FR, cells := s_lm S0 - s_nx S0, slots := s_sm S0 - s_sl S0, locals := LO } s m args below meth c H1 locs (s_nx S1 - s_nx S0) (s_sl S1 - s_sl S0) Q (F0 m (pc + 3) ls (.ref q :: rest))) : W p l e { frames := FR, cells := s_lm S0 - s_nx S0, slots := s_sm S0 - s_sl S0, locals := LO } s m args below meth c H locs (s_nx S - s_nx S0) (s_sl S - s_sl S0) Q (F0 m pc ls rest) := by
  subst hx; subst hq
  obtain ⟨hg, hH, hS⟩ := hJ
  obtain ⟨g1, g2, g3, g4, g5, g6⟩ := id hg
  refine jq_newO (ci := 5) (C := RX6) (T := TX6) (N := 2) (fs := [.null, .int 0]) hX hS ly_X6 tyX6_ok rfl hcl qw26 qw2 (fun j hj => by
    match j, hj with
    | 0, _ => rfl
    | 1, _ => rfl
    | k + 2, hk => exact absurd hk (by omega)) (by show s_nx S - s_nx S0 + 1 ≤ s_lm S0 - s_nx S0; omega) (by show s_sl S - s_sl S0 + 2 ≤ s_sm S0 - s_sl S0; omega) hdg (fun H1 h1 z1 o1 hS1 hA => ?_)
  rw [hH.1] at h1 hA
  have hK1 : s_K (s_new S 6 2) (s_nx S) = 6 := if_pos rfl
  have hJ1 : wJ D Y A s S0 (s_new S 6 2) H1 locs := ⟨hg.step hok rfl rfl rfl rfl, hH.push rfl (fun b hb => if_neg hb) (fun b hb => wE_new S _ _ hb) (by
    rw [wE_X6 hK1]
    simp only [I_new, L_new, R_new, if_true, reduceIte, va_rf]
    exact h1) z1 o1 hA, hS1⟩
  have k := kk H1 hJ1
  rw [hH.1]
  exact W.cs (show s_nx S - s_nx S0 + 1 = s_nx S + 1 - s_nx S0 by omega) (show s_sl S - s_sl S0 + 2 = s_sl S + 2 - s_sl S0 by omega) k
theorem nw_X7 (hX : jq_X D Y aR A p s m args meth c cc own nm mx rt) (hJ : wJ D Y A s S0 S H locs) (hok : s_nx S + 1 ≤ s_lm S ∧ s_sl S + 7 ≤ s_sm S) (hq : s_nx S = q) (hx : s_new S 7 7 = S1) (hcl : Cond.classLink own index "ScoreHandles$Runner" ∈ lw_all) (hdg : decode cc pc = .ok (.new index, 3)) (kk : ∀ H1 : Heap, wJ D Y A s S0 S1 H1 locs → W p l e { frames := FR, cells := s_lm S0 - s_nx S0, slots := s_sm S0 - s_sl S0, locals := LO } s m args below meth c H1 locs (s_nx S1 - s_nx S0) (s_sl S1 - s_sl S0) Q (F0 m (pc + 3) ls (.ref q :: rest))) : W p l e { frames := FR, cells := s_lm S0 - s_nx S0, slots := s_sm S0 - s_sl S0, locals := LO } s m args below meth c H locs (s_nx S - s_nx S0) (s_sl S - s_sl S0) Q (F0 m pc ls rest) := by
  subst hx; subst hq
  obtain ⟨hg, hH, hS⟩ := hJ
  obtain ⟨g1, g2, g3, g4, g5, g6⟩ := id hg
  refine jq_newO (ci := 6) (C := RX7) (T := TX7) (N := 7) (fs := [.null, .null, .null, .int 0, .int 0, .int 0, .int 0]) hX hS ly_X7 tyX7_ok rfl hcl qw71 qw5 (fun j hj => by
    match j, hj with
    | 0, _ => rfl
    | 1, _ => rfl
    | 2, _ => rfl
    | 3, _ => rfl
    | 4, _ => rfl
    | 5, _ => rfl
    | 6, _ => rfl
    | k + 7, hk => exact absurd hk (by omega)) (by show s_nx S - s_nx S0 + 1 ≤ s_lm S0 - s_nx S0; omega) (by show s_sl S - s_sl S0 + 7 ≤ s_sm S0 - s_sl S0; omega) hdg (fun H1 h1 z1 o1 hS1 hA => ?_)
  rw [hH.1] at h1 hA
  have hK1 : s_K (s_new S 7 7) (s_nx S) = 7 := if_pos rfl
  have hJ1 : wJ D Y A s S0 (s_new S 7 7) H1 locs := ⟨hg.step hok rfl rfl rfl rfl, hH.push rfl (fun b hb => if_neg hb) (fun b hb => wE_new S _ _ hb) (by
    rw [wE_X7 hK1]
    simp only [I_new, L_new, R_new, if_true, reduceIte, va_rf]
    exact h1) z1 o1 hA, hS1⟩
  have k := kk H1 hJ1
  rw [hH.1]
  exact W.cs (show s_nx S - s_nx S0 + 1 = s_nx S + 1 - s_nx S0 by omega) (show s_sl S - s_sl S0 + 7 = s_sl S + 7 - s_sl S0 by omega) k
theorem nw_X9 (hX : jq_X D Y aR A p s m args meth c cc own nm mx rt) (hJ : wJ D Y A s S0 S H locs) (hok : s_nx S + 1 ≤ s_lm S ∧ s_sl S + 3 ≤ s_sm S) (hq : s_nx S = q) (hx : s_new S 8 3 = S1) (hcl : Cond.classLink own index "ScoreHandles$Type" ∈ lw_all) (hdg : decode cc pc = .ok (.new index, 3)) (kk : ∀ H1 : Heap, wJ D Y A s S0 S1 H1 locs → W p l e { frames := FR, cells := s_lm S0 - s_nx S0, slots := s_sm S0 - s_sl S0, locals := LO } s m args below meth c H1 locs (s_nx S1 - s_nx S0) (s_sl S1 - s_sl S0) Q (F0 m (pc + 3) ls (.ref q :: rest))) : W p l e { frames := FR, cells := s_lm S0 - s_nx S0, slots := s_sm S0 - s_sl S0, locals := LO } s m args below meth c H locs (s_nx S - s_nx S0) (s_sl S - s_sl S0) Q (F0 m pc ls rest) := by
  subst hx; subst hq
  obtain ⟨hg, hH, hS⟩ := hJ
  obtain ⟨g1, g2, g3, g4, g5, g6⟩ := id hg
  refine jq_newO (ci := 7) (C := RX9) (T := TX9) (N := 3) (fs := [.int 0, .int 0, .null]) hX hS ly_X9 tyX9_ok rfl hcl qw104 qw6 (fun j hj => by
    match j, hj with
    | 0, _ => rfl
    | 1, _ => rfl
    | 2, _ => rfl
    | k + 3, hk => exact absurd hk (by omega)) (by show s_nx S - s_nx S0 + 1 ≤ s_lm S0 - s_nx S0; omega) (by show s_sl S - s_sl S0 + 3 ≤ s_sm S0 - s_sl S0; omega) hdg (fun H1 h1 z1 o1 hS1 hA => ?_)
  rw [hH.1] at h1 hA
  have hK1 : s_K (s_new S 8 3) (s_nx S) = 8 := if_pos rfl
  have hJ1 : wJ D Y A s S0 (s_new S 8 3) H1 locs := ⟨hg.step hok rfl rfl rfl rfl, hH.push rfl (fun b hb => if_neg hb) (fun b hb => wE_new S _ _ hb) (by
    rw [wE_X9 hK1]
    simp only [I_new, L_new, R_new, if_true, reduceIte, va_rf]
    exact h1) z1 o1 hA, hS1⟩
  have k := kk H1 hJ1
  rw [hH.1]
  exact W.cs (show s_nx S - s_nx S0 + 1 = s_nx S + 1 - s_nx S0 by omega) (show s_sl S - s_sl S0 + 3 = s_sl S + 3 - s_sl S0 by omega) k
theorem nw_X10 (hX : jq_X D Y aR A p s m args meth c cc own nm mx rt) (hJ : wJ D Y A s S0 S H locs) (hok : s_nx S + 1 ≤ s_lm S ∧ s_sl S + 8 ≤ s_sm S) (hq : s_nx S = q) (hx : s_new S 9 8 = S1) (hcl : Cond.classLink own index "ScoreHandles" ∈ lw_all) (hdg : decode cc pc = .ok (.new index, 3)) (kk : ∀ H1 : Heap, wJ D Y A s S0 S1 H1 locs → W p l e { frames := FR, cells := s_lm S0 - s_nx S0, slots := s_sm S0 - s_sl S0, locals := LO } s m args below meth c H1 locs (s_nx S1 - s_nx S0) (s_sl S1 - s_sl S0) Q (F0 m (pc + 3) ls (.ref q :: rest))) : W p l e { frames := FR, cells := s_lm S0 - s_nx S0, slots := s_sm S0 - s_sl S0, locals := LO } s m args below meth c H locs (s_nx S - s_nx S0) (s_sl S - s_sl S0) Q (F0 m pc ls rest) := by
  subst hx; subst hq
  obtain ⟨hg, hH, hS⟩ := hJ
  obtain ⟨g1, g2, g3, g4, g5, g6⟩ := id hg
  refine jq_newO (ci := 8) (C := RX10) (T := TX10) (N := 8) (fs := [.null, .null, .null, .null, .null, .null, .long 0, .int 0]) hX hS ly_X10 tyX10_ok rfl hcl qw18 qw1 (fun j hj => by
    match j, hj with
    | 0, _ => rfl
    | 1, _ => rfl
    | 2, _ => rfl
    | 3, _ => rfl
    | 4, _ => rfl
    | 5, _ => rfl
    | 6, _ => rfl
    | 7, _ => rfl
    | k + 8, hk => exact absurd hk (by omega)) (by show s_nx S - s_nx S0 + 1 ≤ s_lm S0 - s_nx S0; omega) (by show s_sl S - s_sl S0 + 8 ≤ s_sm S0 - s_sl S0; omega) hdg (fun H1 h1 z1 o1 hS1 hA => ?_)
  rw [hH.1] at h1 hA
  have hK1 : s_K (s_new S 9 8) (s_nx S) = 9 := if_pos rfl
  have hJ1 : wJ D Y A s S0 (s_new S 9 8) H1 locs := ⟨hg.step hok rfl rfl rfl rfl, hH.push rfl (fun b hb => if_neg hb) (fun b hb => wE_new S _ _ hb) (by
    rw [wE_X10 hK1]
    simp only [I_new, L_new, R_new, if_true, reduceIte, va_rf]
    exact h1) z1 o1 hA, hS1⟩
  have k := kk H1 hJ1
  rw [hH.1]
  exact W.cs (show s_nx S - s_nx S0 + 1 = s_nx S + 1 - s_nx S0 by omega) (show s_sl S - s_sl S0 + 8 = s_sl S + 8 - s_sl S0 by omega) k
theorem nw_X11 (hX : jq_X D Y aR A p s m args meth c cc own nm mx rt) (hJ : wJ D Y A s S0 S H locs) (hok : s_nx S + 1 ≤ s_lm S ∧ s_sl S + 36 ≤ s_sm S) (hq : s_nx S = q) (hx : s_new S 10 36 = S1) (hcl : Cond.classLink own index "ScoreHandlesModel" ∈ lw_all) (hdg : decode cc pc = .ok (.new index, 3)) (kk : ∀ H1 : Heap, wJ D Y A s S0 S1 H1 locs → W p l e { frames := FR, cells := s_lm S0 - s_nx S0, slots := s_sm S0 - s_sl S0, locals := LO } s m args below meth c H1 locs (s_nx S1 - s_nx S0) (s_sl S1 - s_sl S0) Q (F0 m (pc + 3) ls (.ref q :: rest))) : W p l e { frames := FR, cells := s_lm S0 - s_nx S0, slots := s_sm S0 - s_sl S0, locals := LO } s m args below meth c H locs (s_nx S - s_nx S0) (s_sl S - s_sl S0) Q (F0 m pc ls rest) := by
  subst hx; subst hq
  obtain ⟨hg, hH, hS⟩ := hJ
  obtain ⟨g1, g2, g3, g4, g5, g6⟩ := id hg
  refine jq_newO (ci := 9) (C := RX11) (T := TX11) (N := 36) (fs := [.int 0, .null, .null, .null, .int 0, .int 0, .null, .null, .int 0, .null, .null, .null, .null, .null, .null, .null, .null, .int 0, .int 0, .int 0, .long 0, .int 0, .null, .null, .null, .null, .null, .null, .long 0, .int 0, .int 0, .int 0, .int 0, .int 0, .long 0, .null]) hX hS ly_X11 tyX11_ok rfl hcl qw685 qw7 (fun j hj => by
    match j, hj with
    | 0, _ => rfl
    | 1, _ => rfl
    | 2, _ => rfl
    | 3, _ => rfl
    | 4, _ => rfl
    | 5, _ => rfl
    | 6, _ => rfl
    | 7, _ => rfl
    | 8, _ => rfl
    | 9, _ => rfl
    | 10, _ => rfl
    | 11, _ => rfl
    | 12, _ => rfl
    | 13, _ => rfl
    | 14, _ => rfl
    | 15, _ => rfl
    | 16, _ => rfl
    | 17, _ => rfl
    | 18, _ => rfl
    | 19, _ => rfl
    | 20, _ => rfl
    | 21, _ => rfl
    | 22, _ => rfl
    | 23, _ => rfl
    | 24, _ => rfl
    | 25, _ => rfl
    | 26, _ => rfl
    | 27, _ => rfl
    | 28, _ => rfl
    | 29, _ => rfl
    | 30, _ => rfl
    | 31, _ => rfl
    | 32, _ => rfl
    | 33, _ => rfl
    | 34, _ => rfl
    | 35, _ => rfl
    | k + 36, hk => exact absurd hk (by omega)) (by show s_nx S - s_nx S0 + 1 ≤ s_lm S0 - s_nx S0; omega) (by show s_sl S - s_sl S0 + 36 ≤ s_sm S0 - s_sl S0; omega) hdg (fun H1 h1 z1 o1 hS1 hA => ?_)
  rw [hH.1] at h1 hA
  have hK1 : s_K (s_new S 10 36) (s_nx S) = 10 := if_pos rfl
  have hJ1 : wJ D Y A s S0 (s_new S 10 36) H1 locs := ⟨hg.step hok rfl rfl rfl rfl, hH.push rfl (fun b hb => if_neg hb) (fun b hb => wE_new S _ _ hb) (by
    rw [wE_X11 hK1]
    simp only [I_new, L_new, R_new, if_true, reduceIte, va_rf]
    exact h1) z1 o1 hA, hS1⟩
  have k := kk H1 hJ1
  rw [hH.1]
  exact W.cs (show s_nx S - s_nx S0 + 1 = s_nx S + 1 - s_nx S0 by omega) (show s_sl S - s_sl S0 + 36 = s_sl S + 36 - s_sl S0 by omega) k
theorem na_I {n : Int32} (hX : jq_X D Y aR A p s m args meth c cc own nm mx rt) (hJ : wJ D Y A s S0 S H locs) (hok : (¬ n < 0 ∧ n.toNatClampNeg ≤ 1000) ∧ s_nx S + 1 ≤ s_lm S ∧ s_sl S + n.toNatClampNeg ≤ s_sm S) (hq : s_nx S = q) (hx : s_newA S 21 n.toNatClampNeg = S1) (hdg : decode cc pc = .ok (.newarray .int, 2)) (kk : ∀ H1 : Heap, wJ D Y A s S0 S1 H1 locs → W p l e { frames := FR, cells := s_lm S0 - s_nx S0, slots := s_sm S0 - s_sl S0, locals := LO } s m args below meth c H1 locs (s_nx S1 - s_nx S0) (s_sl S1 - s_sl S0) Q (F0 m (pc + 2) ls (.ref q :: rest))) : W p l e { frames := FR, cells := s_lm S0 - s_nx S0, slots := s_sm S0 - s_sl S0, locals := LO } s m args below meth c H locs (s_nx S - s_nx S0) (s_sl S - s_sl S0) Q (F0 m pc ls (.int n :: rest)) := by
  subst hx; subst hq
  obtain ⟨hg, hH, hS⟩ := hJ
  obtain ⟨g1, g2, g3, g4, g5, g6⟩ := id hg
  have hK := hX.2.2.2.2.2.1
  refine va_newaK hX.1 hX.2.1 (atype := .int) (hX.2.2.2.2.1 _ qw125) rfl hdg rfl hok.1.1 rfl (by show n.toNatClampNeg * 4 ≤ 536870912; omega) (by show s_nx S - s_nx S0 + 1 ≤ s_lm S0 - s_nx S0; omega) (by show s_sl S - s_sl S0 + n.toNatClampNeg ≤ s_sm S0 - s_sl S0; omega) rfl (fun H1 cA e1 z1 o1 hAr hNm => ?_)
  have hcA : cA = Y 0 := Option.some.inj (hNm.symm.trans (hK.1.2 0 _ rfl).2)
  subst hcA
  have hA : A (s_nx S) := by rw [← hH.1]; exact hK.2.2.2.2.1 _ hS.1
  have hS1 : va_S A s.heap H1 locs := ⟨Nat.le_trans hS.1 (by omega), fun x h1 h2 => (o1 x (Nat.lt_of_lt_of_le h1 hS.1)).trans (hS.2.1 x h1 h2), hS.2.2⟩
  rw [hH.1] at e1
  have hK1 : s_K (s_newA S 21 n.toNatClampNeg) (s_nx S) = 21 := if_pos rfl
  have hJ1 : wJ D Y A s S0 (s_newA S 21 n.toNatClampNeg) H1 locs := ⟨hg.step hok.2 rfl rfl rfl rfl, hH.push rfl (fun b hb => if_neg hb) (fun b hb => wE_newA S _ _ hb) (by
    rw [wE_21 hK1]
    simp only [n_newA, aI_newA, aL_newA, if_true, reduceIte]
    exact e1) z1 o1 hA, hS1⟩
  have k := kk H1 hJ1
  rw [hH.1]
  exact W.cs (show s_nx S - s_nx S0 + 1 = s_nx S + 1 - s_nx S0 by omega) (show s_sl S - s_sl S0 + n.toNatClampNeg = s_sl S + n.toNatClampNeg - s_sl S0 by omega) k
theorem na_L {n : Int32} (hX : jq_X D Y aR A p s m args meth c cc own nm mx rt) (hJ : wJ D Y A s S0 S H locs) (hok : (¬ n < 0 ∧ n.toNatClampNeg ≤ 1000) ∧ s_nx S + 1 ≤ s_lm S ∧ s_sl S + n.toNatClampNeg ≤ s_sm S) (hq : s_nx S = q) (hx : s_newA S 22 n.toNatClampNeg = S1) (hdg : decode cc pc = .ok (.newarray .long, 2)) (kk : ∀ H1 : Heap, wJ D Y A s S0 S1 H1 locs → W p l e { frames := FR, cells := s_lm S0 - s_nx S0, slots := s_sm S0 - s_sl S0, locals := LO } s m args below meth c H1 locs (s_nx S1 - s_nx S0) (s_sl S1 - s_sl S0) Q (F0 m (pc + 2) ls (.ref q :: rest))) : W p l e { frames := FR, cells := s_lm S0 - s_nx S0, slots := s_sm S0 - s_sl S0, locals := LO } s m args below meth c H locs (s_nx S - s_nx S0) (s_sl S - s_sl S0) Q (F0 m pc ls (.int n :: rest)) := by
  subst hx; subst hq
  obtain ⟨hg, hH, hS⟩ := hJ
  obtain ⟨g1, g2, g3, g4, g5, g6⟩ := id hg
  have hK := hX.2.2.2.2.2.1
  refine va_newaK hX.1 hX.2.1 (atype := .long) (hX.2.2.2.2.1 _ qw102) rfl hdg rfl hok.1.1 rfl (by show n.toNatClampNeg * 8 ≤ 536870912; omega) (by show s_nx S - s_nx S0 + 1 ≤ s_lm S0 - s_nx S0; omega) (by show s_sl S - s_sl S0 + n.toNatClampNeg ≤ s_sm S0 - s_sl S0; omega) rfl (fun H1 cA e1 z1 o1 hAr hNm => ?_)
  have hcA : cA = Y 1 := Option.some.inj (hNm.symm.trans (hK.1.2 1 _ rfl).2)
  subst hcA
  have hA : A (s_nx S) := by rw [← hH.1]; exact hK.2.2.2.2.1 _ hS.1
  have hS1 : va_S A s.heap H1 locs := ⟨Nat.le_trans hS.1 (by omega), fun x h1 h2 => (o1 x (Nat.lt_of_lt_of_le h1 hS.1)).trans (hS.2.1 x h1 h2), hS.2.2⟩
  rw [hH.1] at e1
  have hK1 : s_K (s_newA S 22 n.toNatClampNeg) (s_nx S) = 22 := if_pos rfl
  have hJ1 : wJ D Y A s S0 (s_newA S 22 n.toNatClampNeg) H1 locs := ⟨hg.step hok.2 rfl rfl rfl rfl, hH.push rfl (fun b hb => if_neg hb) (fun b hb => wE_newA S _ _ hb) (by
    rw [wE_22 hK1]
    simp only [n_newA, aI_newA, aL_newA, if_true, reduceIte]
    exact e1) z1 o1 hA, hS1⟩
  have k := kk H1 hJ1
  rw [hH.1]
  exact W.cs (show s_nx S - s_nx S0 + 1 = s_nx S + 1 - s_nx S0 by omega) (show s_sl S - s_sl S0 + n.toNatClampNeg = s_sl S + n.toNatClampNeg - s_sl S0 by omega) k
theorem na_H {n : Int32} (hX : jq_X D Y aR A p s m args meth c cc own nm mx rt) (hJ : wJ D Y A s S0 S H locs) (hok : (¬ n < 0 ∧ n.toNatClampNeg ≤ 1000) ∧ s_nx S + 1 ≤ s_lm S ∧ s_sl S + n.toNatClampNeg ≤ s_sm S) (hq : s_nx S = q) (hx : s_newA S 23 n.toNatClampNeg = S1) (hcl : Cond.classLink own index "ScoreHandles$Handle" ∈ lw_all) (hdg : decode cc pc = .ok (.anewarray index, 3)) (kk : ∀ H1 : Heap, wJ D Y A s S0 S1 H1 locs → W p l e { frames := FR, cells := s_lm S0 - s_nx S0, slots := s_sm S0 - s_sl S0, locals := LO } s m args below meth c H1 locs (s_nx S1 - s_nx S0) (s_sl S1 - s_sl S0) Q (F0 m (pc + 3) ls (.ref q :: rest))) : W p l e { frames := FR, cells := s_lm S0 - s_nx S0, slots := s_sm S0 - s_sl S0, locals := LO } s m args below meth c H locs (s_nx S - s_nx S0) (s_sl S - s_sl S0) Q (F0 m pc ls (.int n :: rest)) := by
  subst hx; subst hq
  obtain ⟨hg, hH, hS⟩ := hJ
  obtain ⟨g1, g2, g3, g4, g5, g6⟩ := id hg
  have hK := hX.2.2.2.2.2.1
  refine W.anew hX.1 hX.2.1 hX.2.2.2.1 (hX.2.2.2.2.1 _ hcl) (va_AO.use hK.2.2.1) rfl hdg rfl hok.1.1 (by omega) (by show s_nx S - s_nx S0 + 1 ≤ s_lm S0 - s_nx S0; omega) (by show s_sl S - s_sl S0 + n.toNatClampNeg ≤ s_sm S0 - s_sl S0; omega) (fun cA kA comp f1 f2 f3 f4 => ?_)
  generalize hH1 : H.push ({ cls := cA, slots := Array.replicate n.toNatClampNeg .null, vm := .none } : Cell) = H1
  have z1 : H1.size = H.size + 1 := by rw [← hH1, Array.size_push]
  have e1 : H1[H.size]? = some (arrV cA n.toNatClampNeg (fun _ => .null)) := by rw [← hH1, Array.getElem?_push_size, ← arrV_new]
  have o1 : ∀ q : Nat, q < H.size → H1[q]? = H[q]? := fun q hq => by rw [← hH1, Array.getElem?_push, if_neg (Nat.ne_of_lt hq)]
  obtain ⟨_, _, _, _, _, hNm⟩ := (hK.1.2 2 _ rfl).2
  have hcA : cA = Y 2 := Option.some.inj (f1.symm.trans hNm)
  subst hcA
  have hA : A (s_nx S) := by rw [← hH.1]; exact hK.2.2.2.2.1 _ hS.1
  have hS1 : va_S A s.heap H1 locs := ⟨Nat.le_trans hS.1 (by omega), fun x h1 h2 => (o1 x (Nat.lt_of_lt_of_le h1 hS.1)).trans (hS.2.1 x h1 h2), hS.2.2⟩
  rw [hH.1] at e1
  have hK1 : s_K (s_newA S 23 n.toNatClampNeg) (s_nx S) = 23 := if_pos rfl
  have hJ1 : wJ D Y A s S0 (s_newA S 23 n.toNatClampNeg) H1 locs := ⟨hg.step hok.2 rfl rfl rfl rfl, hH.push rfl (fun b hb => if_neg hb) (fun b hb => wE_newA S _ _ hb) (by
    rw [wE_23 hK1]
    simp only [n_newA, aR_newA, if_true, reduceIte]
    exact e1) z1 o1 hA, hS1⟩
  have k := kk H1 hJ1
  rw [hH.1]
  exact W.cs (show s_nx S - s_nx S0 + 1 = s_nx S + 1 - s_nx S0 by omega) (show s_sl S - s_sl S0 + n.toNatClampNeg = s_sl S + n.toNatClampNeg - s_sl S0 by omega) k
theorem na_W {n : Int32} (hX : jq_X D Y aR A p s m args meth c cc own nm mx rt) (hJ : wJ D Y A s S0 S H locs) (hok : (¬ n < 0 ∧ n.toNatClampNeg ≤ 1000) ∧ s_nx S + 1 ≤ s_lm S ∧ s_sl S + n.toNatClampNeg ≤ s_sm S) (hq : s_nx S = q) (hx : s_newA S 24 n.toNatClampNeg = S1) (hcl : Cond.classLink own index "ScoreHandles$Row" ∈ lw_all) (hdg : decode cc pc = .ok (.anewarray index, 3)) (kk : ∀ H1 : Heap, wJ D Y A s S0 S1 H1 locs → W p l e { frames := FR, cells := s_lm S0 - s_nx S0, slots := s_sm S0 - s_sl S0, locals := LO } s m args below meth c H1 locs (s_nx S1 - s_nx S0) (s_sl S1 - s_sl S0) Q (F0 m (pc + 3) ls (.ref q :: rest))) : W p l e { frames := FR, cells := s_lm S0 - s_nx S0, slots := s_sm S0 - s_sl S0, locals := LO } s m args below meth c H locs (s_nx S - s_nx S0) (s_sl S - s_sl S0) Q (F0 m pc ls (.int n :: rest)) := by
  subst hx; subst hq
  obtain ⟨hg, hH, hS⟩ := hJ
  obtain ⟨g1, g2, g3, g4, g5, g6⟩ := id hg
  have hK := hX.2.2.2.2.2.1
  refine W.anew hX.1 hX.2.1 hX.2.2.2.1 (hX.2.2.2.2.1 _ hcl) (va_AO.use hK.2.2.2.1) rfl hdg rfl hok.1.1 (by omega) (by show s_nx S - s_nx S0 + 1 ≤ s_lm S0 - s_nx S0; omega) (by show s_sl S - s_sl S0 + n.toNatClampNeg ≤ s_sm S0 - s_sl S0; omega) (fun cA kA comp f1 f2 f3 f4 => ?_)
  generalize hH1 : H.push ({ cls := cA, slots := Array.replicate n.toNatClampNeg .null, vm := .none } : Cell) = H1
  have z1 : H1.size = H.size + 1 := by rw [← hH1, Array.size_push]
  have e1 : H1[H.size]? = some (arrV cA n.toNatClampNeg (fun _ => .null)) := by rw [← hH1, Array.getElem?_push_size, ← arrV_new]
  have o1 : ∀ q : Nat, q < H.size → H1[q]? = H[q]? := fun q hq => by rw [← hH1, Array.getElem?_push, if_neg (Nat.ne_of_lt hq)]
  obtain ⟨_, _, _, _, _, hNm⟩ := (hK.1.2 3 _ rfl).2
  have hcA : cA = Y 3 := Option.some.inj (f1.symm.trans hNm)
  subst hcA
  have hA : A (s_nx S) := by rw [← hH.1]; exact hK.2.2.2.2.1 _ hS.1
  have hS1 : va_S A s.heap H1 locs := ⟨Nat.le_trans hS.1 (by omega), fun x h1 h2 => (o1 x (Nat.lt_of_lt_of_le h1 hS.1)).trans (hS.2.1 x h1 h2), hS.2.2⟩
  rw [hH.1] at e1
  have hK1 : s_K (s_newA S 24 n.toNatClampNeg) (s_nx S) = 24 := if_pos rfl
  have hJ1 : wJ D Y A s S0 (s_newA S 24 n.toNatClampNeg) H1 locs := ⟨hg.step hok.2 rfl rfl rfl rfl, hH.push rfl (fun b hb => if_neg hb) (fun b hb => wE_newA S _ _ hb) (by
    rw [wE_24 hK1]
    simp only [n_newA, aR_newA, if_true, reduceIte]
    exact e1) z1 o1 hA, hS1⟩
  have k := kk H1 hJ1
  rw [hH.1]
  exact W.cs (show s_nx S - s_nx S0 + 1 = s_nx S + 1 - s_nx S0 by omega) (show s_sl S - s_sl S0 + n.toNatClampNeg = s_sl S + n.toNatClampNeg - s_sl S0 by omega) k
end NW
/-! the reference's own state: its int and long fields, its arrays, by number -/
def mS : Type := (Nat → Int32) × (Nat → Int64) × (Nat → Nat → Int32) × (Nat → Nat → Int64)
def m_I (σ : mS) : Nat → Int32 := σ.1
def m_L (σ : mS) : Nat → Int64 := σ.2.1
def m_aI (σ : mS) : Nat → Nat → Int32 := σ.2.2.1
def m_aL (σ : mS) : Nat → Nat → Int64 := σ.2.2.2
def m_pI (σ : mS) (k : Nat) (v : Int32) : mS := (fun j => if j = k then v else σ.1 j, σ.2)
def m_pL (σ : mS) (k : Nat) (v : Int64) : mS := (σ.1, fun j => if j = k then v else σ.2.1 j, σ.2.2)
def m_wI (σ : mS) (k i : Nat) (v : Int32) : mS := (σ.1, σ.2.1, fun j q => if j = k ∧ q = i then v else σ.2.2.1 j q, σ.2.2.2)
def m_wL (σ : mS) (k i : Nat) (v : Int64) : mS := (σ.1, σ.2.1, σ.2.2.1, fun j q => if j = k ∧ q = i then v else σ.2.2.2 j q)
theorem mI_pI (σ : mS) (k : Nat) (v : Int32) : m_I (m_pI σ k v) = fun j => if j = k then v else m_I σ j := rfl
theorem mL_pI (σ : mS) (k : Nat) (v : Int32) : m_L (m_pI σ k v) = m_L σ := rfl
theorem maI_pI (σ : mS) (k : Nat) (v : Int32) : m_aI (m_pI σ k v) = m_aI σ := rfl
theorem maL_pI (σ : mS) (k : Nat) (v : Int32) : m_aL (m_pI σ k v) = m_aL σ := rfl
theorem mI_pL (σ : mS) (k : Nat) (v : Int64) : m_I (m_pL σ k v) = m_I σ := rfl
theorem mL_pL (σ : mS) (k : Nat) (v : Int64) : m_L (m_pL σ k v) = fun j => if j = k then v else m_L σ j := rfl
theorem maI_pL (σ : mS) (k : Nat) (v : Int64) : m_aI (m_pL σ k v) = m_aI σ := rfl
theorem maL_pL (σ : mS) (k : Nat) (v : Int64) : m_aL (m_pL σ k v) = m_aL σ := rfl
theorem mI_wI (σ : mS) (k i : Nat) (v : Int32) : m_I (m_wI σ k i v) = m_I σ := rfl
theorem mL_wI (σ : mS) (k i : Nat) (v : Int32) : m_L (m_wI σ k i v) = m_L σ := rfl
theorem maI_wI (σ : mS) (k i : Nat) (v : Int32) : m_aI (m_wI σ k i v) = fun j q => if j = k ∧ q = i then v else m_aI σ j q := rfl
theorem maL_wI (σ : mS) (k i : Nat) (v : Int32) : m_aL (m_wI σ k i v) = m_aL σ := rfl
theorem mI_wL (σ : mS) (k i : Nat) (v : Int64) : m_I (m_wL σ k i v) = m_I σ := rfl
theorem mL_wL (σ : mS) (k i : Nat) (v : Int64) : m_L (m_wL σ k i v) = m_L σ := rfl
theorem maI_wL (σ : mS) (k i : Nat) (v : Int64) : m_aI (m_wL σ k i v) = m_aI σ := rfl
theorem maL_wL (σ : mS) (k i : Nat) (v : Int64) : m_aL (m_wL σ k i v) = fun j q => if j = k ∧ q = i then v else m_aL σ j q := rfl
def m_n (k : Nat) : Nat := [0, 16, 16, 4, 32, 32, 32, 32, 33, 132, 33, 33, 33, 33, 33, 128, 4, 32, 132, 33, 4].getD k 0
def mF (ad : Nat → Nat) (σ : mS) : List Value := [.int (m_I σ 0), .ref (ad 1), .ref (ad 2), .ref (ad 15), .int (m_I σ 1), .int (m_I σ 2), .ref (ad 3), .ref (ad 16), .int (m_I σ 3), .ref (ad 4), .ref (ad 5), .ref (ad 6), .ref (ad 7), .ref (ad 17), .ref (ad 8), .ref (ad 9), .ref (ad 10), .int (m_I σ 4), .int (m_I σ 5), .int (m_I σ 6), .long (m_L σ 0), .int (m_I σ 7), .ref (ad 11), .ref (ad 12), .ref (ad 18), .ref (ad 19), .ref (ad 13), .ref (ad 14), .long (m_L σ 1), .int (m_I σ 8), .int (m_I σ 9), .int (m_I σ 10), .int (m_I σ 11), .int (m_I σ 12), .long (m_L σ 2), .ref (ad 20)]
def mE (Y : Nat → ClassId) (ad : Nat → Nat) (σ : mS) (k : Nat) : va_E := if k = 0 then .inr (9, mF ad σ) else if k < 15 then .inl (Y 0, m_n k, .inl (m_aI σ k)) else .inl (Y 1, m_n k, .inr (.inl (m_aL σ k)))
/-- the heap holds the reference's state at the cells ad 0 .. ad 20 -/
def mH (D : va_G) (Y : Nat → ClassId) (A : Nat → Prop) (ad : Nat → Nat) (σ : mS) (H : Heap) : Prop := (∀ k, k < 21 → va_at D vwCl (ad k, mE Y ad σ k) H ∧ A (ad k)) ∧ ∀ i j, i < 21 → j < 21 → ad i = ad j → i = j
def mJ (D : va_G) (Y : Nat → ClassId) (A : Nat → Prop) (s : State) (ad : Nat → Nat) (σ : mS) (H : Heap) (locs : List Loc) : Prop := mH D Y A ad σ H ∧ va_S A s.heap H locs
def jq_M (l : Launch) (D : va_G) (Y : Nat → ClassId) (aR : Nat → Nat) (A : Nat → Prop) (ad : Nat → Nat) (y : MethodName) (cc : ByteArray) (mx : Nat) (rt : Option FieldType) (fr lo : Nat) (av : List Value) (σ : mS) (r : Option Value) (σ1 : mS) : Prop :=
  jq_C l D Y aR A y cc mx rt fr lo 0 0 av (mH D Y A ad σ) (fun v k n H => v = r ∧ k = 0 ∧ n = 0 ∧ mH D Y A ad σ1 H)
theorem jq_enterM {l : Launch} {D : va_G} {Y : Nat → ClassId} {aR : Nat → Nat} {A : Nat → Prop} {ad : Nat → Nat} {y : MethodName} {cc : ByteArray} {mx : Nat} {rt : Option FieldType} {fr lo : Nat} {av : List Value} {σ σ1 : mS} {r : Option Value}
    (hy : plainName y.cls = true) (hfit : (lg_sl av).length ≤ mx)
    (body : ∀ (p : Program) (e : Env) (s : State) (m : MethodId) (args : Array Value) (below : List Frame) (meth : Method) (c : Code) (ls : Array Slot) (H : Heap) (locs : List Loc), jq_X D Y aR A p s m args meth c cc y.cls y.name mx rt → mJ D Y A s ad σ H locs → lv_has ls mx (lv_args 0 av) →
      W p l e { frames := fr, cells := 0, slots := 0, locals := lo } s m args below meth c H locs 0 0 (jq_Z below A (fun v k n H => v = r ∧ k = 0 ∧ n = 0 ∧ mH D Y A ad σ1 H) s) (F0 m 0 ls [])) :
    jq_M l D Y aR A ad y cc mx rt fr lo av σ r σ1 :=
  jq_enter hy hfit fun p e s m args below meth c ls hX hB hl => body p e s m args below meth c ls s.heap [] hX ⟨hB, va_S.rf⟩ hl
theorem mH.set {D : va_G} {Y : Nat → ClassId} {A : Nat → Prop} {ad : Nat → Nat} {σ σ1 : mS} {H H1 : Heap} {k : Nat} (h : mH D Y A ad σ H) (hk : k < 21) (ho : ∀ j, j ≠ k → mE Y ad σ1 j = mE Y ad σ j) (h1 : va_at D vwCl (ad k, mE Y ad σ1 k) H1) (hq : ∀ q : Nat, q ≠ ad k → H1[q]? = H[q]?) : mH D Y A ad σ1 H1 := by
  refine ⟨fun j hj => ?_, h.2⟩
  refine ⟨?_, (h.1 j hj).2⟩
  by_cases hjk : j = k
  · subst hjk; exact h1
  · rw [ho j hjk]; exact (h.1 j hj).1.kept (hq _ (fun z => hjk (h.2 j k hj hk z)))
section MD
variable {p : Program} {l : Launch} {e : Env} {R : Room} {s : State} {m : MethodId} {args : Array Value} {below : List Frame} {meth : Method} {c : Code} {H : Heap} {locs : List Loc} {cells slots : Nat} {Q : State → Prop}
variable {D : va_G} {Y : Nat → ClassId} {aR : Nat → Nat} {A : Nat → Prop} {cc : ByteArray} {own nm : String} {mx : Nat} {rt : Option FieldType} {pc : Nat} {ls : Array Slot} {st rest : List Value} {index : Nat} {ad : Nat → Nat} {σ σ1 : mS}
variable {y : MethodName} {cy : ByteArray} {my fr lo : Nat} {ry : Option FieldType} {av : List Value} {r : Option Value}
theorem jq_doM (hX : jq_X D Y aR A p s m args meth c cc own nm mx rt) (hJ : mJ D Y A s ad σ H locs) (hok : jq_Ok p l e R s m args below meth c H y cy my ry av pc ls st rest) (hM : jq_M l D Y aR A ad y cy my ry fr lo av σ r σ1) (hfr : fr + 1 ≤ R.frames) (hlo : 8 + (my + 11) + lo ≤ R.locals) (hc : cells ≤ R.cells) (hs : slots ≤ R.slots)
    (kk : ∀ (H1 : Heap) (locs1 : List Loc), mJ D Y A s ad σ1 H1 locs1 → W p l e R s m args below meth c H1 locs1 cells slots Q (F0 m (pc + 3) ls (r.toList ++ rest))) : W p l e R s m args below meth c H locs cells slots Q (F0 m pc ls st) := by
  obtain ⟨hH, hS⟩ := hJ
  have hA : ∀ q, H.size ≤ q → A q := fun q hq => hX.2.2.2.2.2.1.2.2.2.2.1 q (Nat.le_trans hS.1 hq)
  refine hok locs cells slots Q A A D Y aR fr lo 0 0 _ _ hM (fun U hU hW => hX.2.2.2.2.2.1.at hS hU hW (fun _ h => h) hA) hH hS (fun _ h => h) hfr hlo hc hs (fun v k n H1 locs1 hq hS1 _ _ => ?_)
  obtain ⟨rfl, rfl, rfl, hH1⟩ := hq
  exact kk H1 locs1 ⟨hH1, hS1⟩
theorem mJ.recv (hX : jq_X D Y aR A p s m args meth c cc own nm mx rt) (hJ : mJ D Y A s ad σ H locs) : ∃ cell : Cell, H[ad 0]? = some cell ∧ cell.vm.isStatics = false ∧ s.vm.findClass "ScoreHandlesModel" = some cell.cls :=
  jq_recvA (ci := 9) (fs := mF ad σ) hX.2.2.2.2.2.1.1 (hJ.1.1 0 (by decide)).1 (C := RX11) (T := TX11) (N := 36) rfl
theorem mg_rows {x : Int32} (hX : jq_X D Y aR A p s m args meth c cc own nm mx rt) (hJ : mJ D Y A s ad σ H locs) (hx : m_I σ 0 = x) (hl : Cond.fieldLink own index "ScoreHandlesModel" "rows" "I" ∈ lw_all) (hdg : decode cc pc = .ok (.getfield index, 3)) (kk : W p l e R s m args below meth c H locs cells slots Q (F0 m (pc + 3) ls (.int x :: rest))) : W p l e R s m args below meth c H locs cells slots Q (F0 m pc ls (.ref (ad 0) :: rest)) :=
  jq_rdf (ci := 9) (fs := mF ad σ) (C := RX11) (T := TX11) (N := 36) hX (hJ.1.1 0 (by decide)).1 ly_X11 rfl (k := 0) (by decide) hl (by rw [← hx]; rfl) hdg kk
theorem mp_rows {v : Int32} (hX : jq_X D Y aR A p s m args meth c cc own nm mx rt) (hJ : mJ D Y A s ad σ H locs) (hx : m_pI σ 0 v = σ1) (hl : Cond.fieldLink own index "ScoreHandlesModel" "rows" "I" ∈ lw_all) (hdg : decode cc pc = .ok (.putfield index, 3)) (kk : ∀ (H1 : Heap) (locs1 : List Loc), mJ D Y A s ad σ1 H1 locs1 → W p l e R s m args below meth c H1 locs1 cells slots Q (F0 m (pc + 3) ls rest)) : W p l e R s m args below meth c H locs cells slots Q (F0 m pc ls (.int v :: .ref (ad 0) :: rest)) := by
  subst hx
  refine jq_wrf (ci := 9) (fs := mF ad σ) (C := RX11) (T := TX11) (N := 36) hX (hJ.1.1 0 (by decide)).1 ly_X11 tyX11_ok nmX11 rfl (k := 0) (by decide) hl (Or.inl rfl) (ty := .int) (by decide +kernel) rfl rfl (by show _ < _; simp [mF]) hJ.2 (hJ.1.1 0 (by decide)).2 hdg (fun H1 locs1 h1 hz hq hS1 => kk H1 locs1 ⟨hJ.1.set (k := 0) (by decide) (fun j hj => by simp only [mE, if_neg hj]; rfl) h1 hq, hS1⟩)
theorem mg_laneOf (hX : jq_X D Y aR A p s m args meth c cc own nm mx rt) (hJ : mJ D Y A s ad σ H locs) (hl : Cond.fieldLink own index "ScoreHandlesModel" "laneOf" "[I" ∈ lw_all) (hdg : decode cc pc = .ok (.getfield index, 3)) (kk : W p l e R s m args below meth c H locs cells slots Q (F0 m (pc + 3) ls (.ref (ad 1) :: rest))) : W p l e R s m args below meth c H locs cells slots Q (F0 m pc ls (.ref (ad 0) :: rest)) :=
  jq_rdf (ci := 9) (fs := mF ad σ) (C := RX11) (T := TX11) (N := 36) hX (hJ.1.1 0 (by decide)).1 ly_X11 rfl (k := 1) (by decide) hl rfl hdg kk
theorem mg_sizeOf (hX : jq_X D Y aR A p s m args meth c cc own nm mx rt) (hJ : mJ D Y A s ad σ H locs) (hl : Cond.fieldLink own index "ScoreHandlesModel" "sizeOf" "[I" ∈ lw_all) (hdg : decode cc pc = .ok (.getfield index, 3)) (kk : W p l e R s m args below meth c H locs cells slots Q (F0 m (pc + 3) ls (.ref (ad 2) :: rest))) : W p l e R s m args below meth c H locs cells slots Q (F0 m pc ls (.ref (ad 0) :: rest)) :=
  jq_rdf (ci := 9) (fs := mF ad σ) (C := RX11) (T := TX11) (N := 36) hX (hJ.1.1 0 (by decide)).1 ly_X11 rfl (k := 2) (by decide) hl rfl hdg kk
theorem mg_items (hX : jq_X D Y aR A p s m args meth c cc own nm mx rt) (hJ : mJ D Y A s ad σ H locs) (hl : Cond.fieldLink own index "ScoreHandlesModel" "items" "[J" ∈ lw_all) (hdg : decode cc pc = .ok (.getfield index, 3)) (kk : W p l e R s m args below meth c H locs cells slots Q (F0 m (pc + 3) ls (.ref (ad 15) :: rest))) : W p l e R s m args below meth c H locs cells slots Q (F0 m pc ls (.ref (ad 0) :: rest)) :=
  jq_rdf (ci := 9) (fs := mF ad σ) (C := RX11) (T := TX11) (N := 36) hX (hJ.1.1 0 (by decide)).1 ly_X11 rfl (k := 3) (by decide) hl rfl hdg kk
theorem mg_handResult {x : Int32} (hX : jq_X D Y aR A p s m args meth c cc own nm mx rt) (hJ : mJ D Y A s ad σ H locs) (hx : m_I σ 1 = x) (hl : Cond.fieldLink own index "ScoreHandlesModel" "handResult" "I" ∈ lw_all) (hdg : decode cc pc = .ok (.getfield index, 3)) (kk : W p l e R s m args below meth c H locs cells slots Q (F0 m (pc + 3) ls (.int x :: rest))) : W p l e R s m args below meth c H locs cells slots Q (F0 m pc ls (.ref (ad 0) :: rest)) :=
  jq_rdf (ci := 9) (fs := mF ad σ) (C := RX11) (T := TX11) (N := 36) hX (hJ.1.1 0 (by decide)).1 ly_X11 rfl (k := 4) (by decide) hl (by rw [← hx]; rfl) hdg kk
theorem mp_handResult {v : Int32} (hX : jq_X D Y aR A p s m args meth c cc own nm mx rt) (hJ : mJ D Y A s ad σ H locs) (hx : m_pI σ 1 v = σ1) (hl : Cond.fieldLink own index "ScoreHandlesModel" "handResult" "I" ∈ lw_all) (hdg : decode cc pc = .ok (.putfield index, 3)) (kk : ∀ (H1 : Heap) (locs1 : List Loc), mJ D Y A s ad σ1 H1 locs1 → W p l e R s m args below meth c H1 locs1 cells slots Q (F0 m (pc + 3) ls rest)) : W p l e R s m args below meth c H locs cells slots Q (F0 m pc ls (.int v :: .ref (ad 0) :: rest)) := by
  subst hx
  refine jq_wrf (ci := 9) (fs := mF ad σ) (C := RX11) (T := TX11) (N := 36) hX (hJ.1.1 0 (by decide)).1 ly_X11 tyX11_ok nmX11 rfl (k := 4) (by decide) hl (Or.inl rfl) (ty := .int) (by decide +kernel) rfl rfl (by show _ < _; simp [mF]) hJ.2 (hJ.1.1 0 (by decide)).2 hdg (fun H1 locs1 h1 hz hq hS1 => kk H1 locs1 ⟨hJ.1.set (k := 0) (by decide) (fun j hj => by simp only [mE, if_neg hj]; rfl) h1 hq, hS1⟩)
theorem mg_handMany {x : Int32} (hX : jq_X D Y aR A p s m args meth c cc own nm mx rt) (hJ : mJ D Y A s ad σ H locs) (hx : m_I σ 2 = x) (hl : Cond.fieldLink own index "ScoreHandlesModel" "handMany" "I" ∈ lw_all) (hdg : decode cc pc = .ok (.getfield index, 3)) (kk : W p l e R s m args below meth c H locs cells slots Q (F0 m (pc + 3) ls (.int x :: rest))) : W p l e R s m args below meth c H locs cells slots Q (F0 m pc ls (.ref (ad 0) :: rest)) :=
  jq_rdf (ci := 9) (fs := mF ad σ) (C := RX11) (T := TX11) (N := 36) hX (hJ.1.1 0 (by decide)).1 ly_X11 rfl (k := 5) (by decide) hl (by rw [← hx]; rfl) hdg kk
theorem mp_handMany {v : Int32} (hX : jq_X D Y aR A p s m args meth c cc own nm mx rt) (hJ : mJ D Y A s ad σ H locs) (hx : m_pI σ 2 v = σ1) (hl : Cond.fieldLink own index "ScoreHandlesModel" "handMany" "I" ∈ lw_all) (hdg : decode cc pc = .ok (.putfield index, 3)) (kk : ∀ (H1 : Heap) (locs1 : List Loc), mJ D Y A s ad σ1 H1 locs1 → W p l e R s m args below meth c H1 locs1 cells slots Q (F0 m (pc + 3) ls rest)) : W p l e R s m args below meth c H locs cells slots Q (F0 m pc ls (.int v :: .ref (ad 0) :: rest)) := by
  subst hx
  refine jq_wrf (ci := 9) (fs := mF ad σ) (C := RX11) (T := TX11) (N := 36) hX (hJ.1.1 0 (by decide)).1 ly_X11 tyX11_ok nmX11 rfl (k := 5) (by decide) hl (Or.inl rfl) (ty := .int) (by decide +kernel) rfl rfl (by show _ < _; simp [mF]) hJ.2 (hJ.1.1 0 (by decide)).2 hdg (fun H1 locs1 h1 hz hq hS1 => kk H1 locs1 ⟨hJ.1.set (k := 0) (by decide) (fun j hj => by simp only [mE, if_neg hj]; rfl) h1 hq, hS1⟩)
theorem mg_handKind (hX : jq_X D Y aR A p s m args meth c cc own nm mx rt) (hJ : mJ D Y A s ad σ H locs) (hl : Cond.fieldLink own index "ScoreHandlesModel" "handKind" "[I" ∈ lw_all) (hdg : decode cc pc = .ok (.getfield index, 3)) (kk : W p l e R s m args below meth c H locs cells slots Q (F0 m (pc + 3) ls (.ref (ad 3) :: rest))) : W p l e R s m args below meth c H locs cells slots Q (F0 m pc ls (.ref (ad 0) :: rest)) :=
  jq_rdf (ci := 9) (fs := mF ad σ) (C := RX11) (T := TX11) (N := 36) hX (hJ.1.1 0 (by decide)).1 ly_X11 rfl (k := 6) (by decide) hl rfl hdg kk
theorem mg_given (hX : jq_X D Y aR A p s m args meth c cc own nm mx rt) (hJ : mJ D Y A s ad σ H locs) (hl : Cond.fieldLink own index "ScoreHandlesModel" "given" "[J" ∈ lw_all) (hdg : decode cc pc = .ok (.getfield index, 3)) (kk : W p l e R s m args below meth c H locs cells slots Q (F0 m (pc + 3) ls (.ref (ad 16) :: rest))) : W p l e R s m args below meth c H locs cells slots Q (F0 m pc ls (.ref (ad 0) :: rest)) :=
  jq_rdf (ci := 9) (fs := mF ad σ) (C := RX11) (T := TX11) (N := 36) hX (hJ.1.1 0 (by decide)).1 ly_X11 rfl (k := 7) (by decide) hl rfl hdg kk
theorem mg_handles {x : Int32} (hX : jq_X D Y aR A p s m args meth c cc own nm mx rt) (hJ : mJ D Y A s ad σ H locs) (hx : m_I σ 3 = x) (hl : Cond.fieldLink own index "ScoreHandlesModel" "handles" "I" ∈ lw_all) (hdg : decode cc pc = .ok (.getfield index, 3)) (kk : W p l e R s m args below meth c H locs cells slots Q (F0 m (pc + 3) ls (.int x :: rest))) : W p l e R s m args below meth c H locs cells slots Q (F0 m pc ls (.ref (ad 0) :: rest)) :=
  jq_rdf (ci := 9) (fs := mF ad σ) (C := RX11) (T := TX11) (N := 36) hX (hJ.1.1 0 (by decide)).1 ly_X11 rfl (k := 8) (by decide) hl (by rw [← hx]; rfl) hdg kk
theorem mp_handles {v : Int32} (hX : jq_X D Y aR A p s m args meth c cc own nm mx rt) (hJ : mJ D Y A s ad σ H locs) (hx : m_pI σ 3 v = σ1) (hl : Cond.fieldLink own index "ScoreHandlesModel" "handles" "I" ∈ lw_all) (hdg : decode cc pc = .ok (.putfield index, 3)) (kk : ∀ (H1 : Heap) (locs1 : List Loc), mJ D Y A s ad σ1 H1 locs1 → W p l e R s m args below meth c H1 locs1 cells slots Q (F0 m (pc + 3) ls rest)) : W p l e R s m args below meth c H locs cells slots Q (F0 m pc ls (.int v :: .ref (ad 0) :: rest)) := by
  subst hx
  refine jq_wrf (ci := 9) (fs := mF ad σ) (C := RX11) (T := TX11) (N := 36) hX (hJ.1.1 0 (by decide)).1 ly_X11 tyX11_ok nmX11 rfl (k := 8) (by decide) hl (Or.inl rfl) (ty := .int) (by decide +kernel) rfl rfl (by show _ < _; simp [mF]) hJ.2 (hJ.1.1 0 (by decide)).2 hdg (fun H1 locs1 h1 hz hq hS1 => kk H1 locs1 ⟨hJ.1.set (k := 0) (by decide) (fun j hj => by simp only [mE, if_neg hj]; rfl) h1 hq, hS1⟩)
theorem mg_sortOf (hX : jq_X D Y aR A p s m args meth c cc own nm mx rt) (hJ : mJ D Y A s ad σ H locs) (hl : Cond.fieldLink own index "ScoreHandlesModel" "sortOf" "[I" ∈ lw_all) (hdg : decode cc pc = .ok (.getfield index, 3)) (kk : W p l e R s m args below meth c H locs cells slots Q (F0 m (pc + 3) ls (.ref (ad 4) :: rest))) : W p l e R s m args below meth c H locs cells slots Q (F0 m pc ls (.ref (ad 0) :: rest)) :=
  jq_rdf (ci := 9) (fs := mF ad σ) (C := RX11) (T := TX11) (N := 36) hX (hJ.1.1 0 (by decide)).1 ly_X11 rfl (k := 9) (by decide) hl rfl hdg kk
theorem mg_aOf (hX : jq_X D Y aR A p s m args meth c cc own nm mx rt) (hJ : mJ D Y A s ad σ H locs) (hl : Cond.fieldLink own index "ScoreHandlesModel" "aOf" "[I" ∈ lw_all) (hdg : decode cc pc = .ok (.getfield index, 3)) (kk : W p l e R s m args below meth c H locs cells slots Q (F0 m (pc + 3) ls (.ref (ad 5) :: rest))) : W p l e R s m args below meth c H locs cells slots Q (F0 m pc ls (.ref (ad 0) :: rest)) :=
  jq_rdf (ci := 9) (fs := mF ad σ) (C := RX11) (T := TX11) (N := 36) hX (hJ.1.1 0 (by decide)).1 ly_X11 rfl (k := 10) (by decide) hl rfl hdg kk
theorem mg_bOf (hX : jq_X D Y aR A p s m args meth c cc own nm mx rt) (hJ : mJ D Y A s ad σ H locs) (hl : Cond.fieldLink own index "ScoreHandlesModel" "bOf" "[I" ∈ lw_all) (hdg : decode cc pc = .ok (.getfield index, 3)) (kk : W p l e R s m args below meth c H locs cells slots Q (F0 m (pc + 3) ls (.ref (ad 6) :: rest))) : W p l e R s m args below meth c H locs cells slots Q (F0 m pc ls (.ref (ad 0) :: rest)) :=
  jq_rdf (ci := 9) (fs := mF ad σ) (C := RX11) (T := TX11) (N := 36) hX (hJ.1.1 0 (by decide)).1 ly_X11 rfl (k := 11) (by decide) hl rfl hdg kk
theorem mg_cOf (hX : jq_X D Y aR A p s m args meth c cc own nm mx rt) (hJ : mJ D Y A s ad σ H locs) (hl : Cond.fieldLink own index "ScoreHandlesModel" "cOf" "[I" ∈ lw_all) (hdg : decode cc pc = .ok (.getfield index, 3)) (kk : W p l e R s m args below meth c H locs cells slots Q (F0 m (pc + 3) ls (.ref (ad 7) :: rest))) : W p l e R s m args below meth c H locs cells slots Q (F0 m pc ls (.ref (ad 0) :: rest)) :=
  jq_rdf (ci := 9) (fs := mF ad σ) (C := RX11) (T := TX11) (N := 36) hX (hJ.1.1 0 (by decide)).1 ly_X11 rfl (k := 12) (by decide) hl rfl hdg kk
theorem mg_vOf (hX : jq_X D Y aR A p s m args meth c cc own nm mx rt) (hJ : mJ D Y A s ad σ H locs) (hl : Cond.fieldLink own index "ScoreHandlesModel" "vOf" "[J" ∈ lw_all) (hdg : decode cc pc = .ok (.getfield index, 3)) (kk : W p l e R s m args below meth c H locs cells slots Q (F0 m (pc + 3) ls (.ref (ad 17) :: rest))) : W p l e R s m args below meth c H locs cells slots Q (F0 m pc ls (.ref (ad 0) :: rest)) :=
  jq_rdf (ci := 9) (fs := mF ad σ) (C := RX11) (T := TX11) (N := 36) hX (hJ.1.1 0 (by decide)).1 ly_X11 rfl (k := 13) (by decide) hl rfl hdg kk
theorem mg_manyOf (hX : jq_X D Y aR A p s m args meth c cc own nm mx rt) (hJ : mJ D Y A s ad σ H locs) (hl : Cond.fieldLink own index "ScoreHandlesModel" "manyOf" "[I" ∈ lw_all) (hdg : decode cc pc = .ok (.getfield index, 3)) (kk : W p l e R s m args below meth c H locs cells slots Q (F0 m (pc + 3) ls (.ref (ad 8) :: rest))) : W p l e R s m args below meth c H locs cells slots Q (F0 m pc ls (.ref (ad 0) :: rest)) :=
  jq_rdf (ci := 9) (fs := mF ad σ) (C := RX11) (T := TX11) (N := 36) hX (hJ.1.1 0 (by decide)).1 ly_X11 rfl (k := 14) (by decide) hl rfl hdg kk
theorem mg_kindOf (hX : jq_X D Y aR A p s m args meth c cc own nm mx rt) (hJ : mJ D Y A s ad σ H locs) (hl : Cond.fieldLink own index "ScoreHandlesModel" "kindOf" "[I" ∈ lw_all) (hdg : decode cc pc = .ok (.getfield index, 3)) (kk : W p l e R s m args below meth c H locs cells slots Q (F0 m (pc + 3) ls (.ref (ad 9) :: rest))) : W p l e R s m args below meth c H locs cells slots Q (F0 m pc ls (.ref (ad 0) :: rest)) :=
  jq_rdf (ci := 9) (fs := mF ad σ) (C := RX11) (T := TX11) (N := 36) hX (hJ.1.1 0 (by decide)).1 ly_X11 rfl (k := 15) (by decide) hl rfl hdg kk
theorem mg_resultOf (hX : jq_X D Y aR A p s m args meth c cc own nm mx rt) (hJ : mJ D Y A s ad σ H locs) (hl : Cond.fieldLink own index "ScoreHandlesModel" "resultOf" "[I" ∈ lw_all) (hdg : decode cc pc = .ok (.getfield index, 3)) (kk : W p l e R s m args below meth c H locs cells slots Q (F0 m (pc + 3) ls (.ref (ad 10) :: rest))) : W p l e R s m args below meth c H locs cells slots Q (F0 m pc ls (.ref (ad 0) :: rest)) :=
  jq_rdf (ci := 9) (fs := mF ad σ) (C := RX11) (T := TX11) (N := 36) hX (hJ.1.1 0 (by decide)).1 ly_X11 rfl (k := 16) (by decide) hl rfl hdg kk
theorem mg_madeA {x : Int32} (hX : jq_X D Y aR A p s m args meth c cc own nm mx rt) (hJ : mJ D Y A s ad σ H locs) (hx : m_I σ 4 = x) (hl : Cond.fieldLink own index "ScoreHandlesModel" "madeA" "I" ∈ lw_all) (hdg : decode cc pc = .ok (.getfield index, 3)) (kk : W p l e R s m args below meth c H locs cells slots Q (F0 m (pc + 3) ls (.int x :: rest))) : W p l e R s m args below meth c H locs cells slots Q (F0 m pc ls (.ref (ad 0) :: rest)) :=
  jq_rdf (ci := 9) (fs := mF ad σ) (C := RX11) (T := TX11) (N := 36) hX (hJ.1.1 0 (by decide)).1 ly_X11 rfl (k := 17) (by decide) hl (by rw [← hx]; rfl) hdg kk
theorem mp_madeA {v : Int32} (hX : jq_X D Y aR A p s m args meth c cc own nm mx rt) (hJ : mJ D Y A s ad σ H locs) (hx : m_pI σ 4 v = σ1) (hl : Cond.fieldLink own index "ScoreHandlesModel" "madeA" "I" ∈ lw_all) (hdg : decode cc pc = .ok (.putfield index, 3)) (kk : ∀ (H1 : Heap) (locs1 : List Loc), mJ D Y A s ad σ1 H1 locs1 → W p l e R s m args below meth c H1 locs1 cells slots Q (F0 m (pc + 3) ls rest)) : W p l e R s m args below meth c H locs cells slots Q (F0 m pc ls (.int v :: .ref (ad 0) :: rest)) := by
  subst hx
  refine jq_wrf (ci := 9) (fs := mF ad σ) (C := RX11) (T := TX11) (N := 36) hX (hJ.1.1 0 (by decide)).1 ly_X11 tyX11_ok nmX11 rfl (k := 17) (by decide) hl (Or.inl rfl) (ty := .int) (by decide +kernel) rfl rfl (by show _ < _; simp [mF]) hJ.2 (hJ.1.1 0 (by decide)).2 hdg (fun H1 locs1 h1 hz hq hS1 => kk H1 locs1 ⟨hJ.1.set (k := 0) (by decide) (fun j hj => by simp only [mE, if_neg hj]; rfl) h1 hq, hS1⟩)
theorem mg_madeB {x : Int32} (hX : jq_X D Y aR A p s m args meth c cc own nm mx rt) (hJ : mJ D Y A s ad σ H locs) (hx : m_I σ 5 = x) (hl : Cond.fieldLink own index "ScoreHandlesModel" "madeB" "I" ∈ lw_all) (hdg : decode cc pc = .ok (.getfield index, 3)) (kk : W p l e R s m args below meth c H locs cells slots Q (F0 m (pc + 3) ls (.int x :: rest))) : W p l e R s m args below meth c H locs cells slots Q (F0 m pc ls (.ref (ad 0) :: rest)) :=
  jq_rdf (ci := 9) (fs := mF ad σ) (C := RX11) (T := TX11) (N := 36) hX (hJ.1.1 0 (by decide)).1 ly_X11 rfl (k := 18) (by decide) hl (by rw [← hx]; rfl) hdg kk
theorem mp_madeB {v : Int32} (hX : jq_X D Y aR A p s m args meth c cc own nm mx rt) (hJ : mJ D Y A s ad σ H locs) (hx : m_pI σ 5 v = σ1) (hl : Cond.fieldLink own index "ScoreHandlesModel" "madeB" "I" ∈ lw_all) (hdg : decode cc pc = .ok (.putfield index, 3)) (kk : ∀ (H1 : Heap) (locs1 : List Loc), mJ D Y A s ad σ1 H1 locs1 → W p l e R s m args below meth c H1 locs1 cells slots Q (F0 m (pc + 3) ls rest)) : W p l e R s m args below meth c H locs cells slots Q (F0 m pc ls (.int v :: .ref (ad 0) :: rest)) := by
  subst hx
  refine jq_wrf (ci := 9) (fs := mF ad σ) (C := RX11) (T := TX11) (N := 36) hX (hJ.1.1 0 (by decide)).1 ly_X11 tyX11_ok nmX11 rfl (k := 18) (by decide) hl (Or.inl rfl) (ty := .int) (by decide +kernel) rfl rfl (by show _ < _; simp [mF]) hJ.2 (hJ.1.1 0 (by decide)).2 hdg (fun H1 locs1 h1 hz hq hS1 => kk H1 locs1 ⟨hJ.1.set (k := 0) (by decide) (fun j hj => by simp only [mE, if_neg hj]; rfl) h1 hq, hS1⟩)
theorem mg_madeC {x : Int32} (hX : jq_X D Y aR A p s m args meth c cc own nm mx rt) (hJ : mJ D Y A s ad σ H locs) (hx : m_I σ 6 = x) (hl : Cond.fieldLink own index "ScoreHandlesModel" "madeC" "I" ∈ lw_all) (hdg : decode cc pc = .ok (.getfield index, 3)) (kk : W p l e R s m args below meth c H locs cells slots Q (F0 m (pc + 3) ls (.int x :: rest))) : W p l e R s m args below meth c H locs cells slots Q (F0 m pc ls (.ref (ad 0) :: rest)) :=
  jq_rdf (ci := 9) (fs := mF ad σ) (C := RX11) (T := TX11) (N := 36) hX (hJ.1.1 0 (by decide)).1 ly_X11 rfl (k := 19) (by decide) hl (by rw [← hx]; rfl) hdg kk
theorem mp_madeC {v : Int32} (hX : jq_X D Y aR A p s m args meth c cc own nm mx rt) (hJ : mJ D Y A s ad σ H locs) (hx : m_pI σ 6 v = σ1) (hl : Cond.fieldLink own index "ScoreHandlesModel" "madeC" "I" ∈ lw_all) (hdg : decode cc pc = .ok (.putfield index, 3)) (kk : ∀ (H1 : Heap) (locs1 : List Loc), mJ D Y A s ad σ1 H1 locs1 → W p l e R s m args below meth c H1 locs1 cells slots Q (F0 m (pc + 3) ls rest)) : W p l e R s m args below meth c H locs cells slots Q (F0 m pc ls (.int v :: .ref (ad 0) :: rest)) := by
  subst hx
  refine jq_wrf (ci := 9) (fs := mF ad σ) (C := RX11) (T := TX11) (N := 36) hX (hJ.1.1 0 (by decide)).1 ly_X11 tyX11_ok nmX11 rfl (k := 19) (by decide) hl (Or.inl rfl) (ty := .int) (by decide +kernel) rfl rfl (by show _ < _; simp [mF]) hJ.2 (hJ.1.1 0 (by decide)).2 hdg (fun H1 locs1 h1 hz hq hS1 => kk H1 locs1 ⟨hJ.1.set (k := 0) (by decide) (fun j hj => by simp only [mE, if_neg hj]; rfl) h1 hq, hS1⟩)
theorem mg_madeV {x : Int64} (hX : jq_X D Y aR A p s m args meth c cc own nm mx rt) (hJ : mJ D Y A s ad σ H locs) (hx : m_L σ 0 = x) (hl : Cond.fieldLink own index "ScoreHandlesModel" "madeV" "J" ∈ lw_all) (hdg : decode cc pc = .ok (.getfield index, 3)) (kk : W p l e R s m args below meth c H locs cells slots Q (F0 m (pc + 3) ls (.long x :: rest))) : W p l e R s m args below meth c H locs cells slots Q (F0 m pc ls (.ref (ad 0) :: rest)) :=
  jq_rdf (ci := 9) (fs := mF ad σ) (C := RX11) (T := TX11) (N := 36) hX (hJ.1.1 0 (by decide)).1 ly_X11 rfl (k := 20) (by decide) hl (by rw [← hx]; rfl) hdg kk
theorem mp_madeV {v : Int64} (hX : jq_X D Y aR A p s m args meth c cc own nm mx rt) (hJ : mJ D Y A s ad σ H locs) (hx : m_pL σ 0 v = σ1) (hl : Cond.fieldLink own index "ScoreHandlesModel" "madeV" "J" ∈ lw_all) (hdg : decode cc pc = .ok (.putfield index, 3)) (kk : ∀ (H1 : Heap) (locs1 : List Loc), mJ D Y A s ad σ1 H1 locs1 → W p l e R s m args below meth c H1 locs1 cells slots Q (F0 m (pc + 3) ls rest)) : W p l e R s m args below meth c H locs cells slots Q (F0 m pc ls (.long v :: .ref (ad 0) :: rest)) := by
  subst hx
  refine jq_wrf (ci := 9) (fs := mF ad σ) (C := RX11) (T := TX11) (N := 36) hX (hJ.1.1 0 (by decide)).1 ly_X11 tyX11_ok nmX11 rfl (k := 20) (by decide) hl (Or.inl rfl) (ty := .long) (by decide +kernel) rfl rfl (by show _ < _; simp [mF]) hJ.2 (hJ.1.1 0 (by decide)).2 hdg (fun H1 locs1 h1 hz hq hS1 => kk H1 locs1 ⟨hJ.1.set (k := 0) (by decide) (fun j hj => by simp only [mE, if_neg hj]; rfl) h1 hq, hS1⟩)
theorem mg_depth {x : Int32} (hX : jq_X D Y aR A p s m args meth c cc own nm mx rt) (hJ : mJ D Y A s ad σ H locs) (hx : m_I σ 7 = x) (hl : Cond.fieldLink own index "ScoreHandlesModel" "depth" "I" ∈ lw_all) (hdg : decode cc pc = .ok (.getfield index, 3)) (kk : W p l e R s m args below meth c H locs cells slots Q (F0 m (pc + 3) ls (.int x :: rest))) : W p l e R s m args below meth c H locs cells slots Q (F0 m pc ls (.ref (ad 0) :: rest)) :=
  jq_rdf (ci := 9) (fs := mF ad σ) (C := RX11) (T := TX11) (N := 36) hX (hJ.1.1 0 (by decide)).1 ly_X11 rfl (k := 21) (by decide) hl (by rw [← hx]; rfl) hdg kk
theorem mp_depth {v : Int32} (hX : jq_X D Y aR A p s m args meth c cc own nm mx rt) (hJ : mJ D Y A s ad σ H locs) (hx : m_pI σ 7 v = σ1) (hl : Cond.fieldLink own index "ScoreHandlesModel" "depth" "I" ∈ lw_all) (hdg : decode cc pc = .ok (.putfield index, 3)) (kk : ∀ (H1 : Heap) (locs1 : List Loc), mJ D Y A s ad σ1 H1 locs1 → W p l e R s m args below meth c H1 locs1 cells slots Q (F0 m (pc + 3) ls rest)) : W p l e R s m args below meth c H locs cells slots Q (F0 m pc ls (.int v :: .ref (ad 0) :: rest)) := by
  subst hx
  refine jq_wrf (ci := 9) (fs := mF ad σ) (C := RX11) (T := TX11) (N := 36) hX (hJ.1.1 0 (by decide)).1 ly_X11 tyX11_ok nmX11 rfl (k := 21) (by decide) hl (Or.inl rfl) (ty := .int) (by decide +kernel) rfl rfl (by show _ < _; simp [mF]) hJ.2 (hJ.1.1 0 (by decide)).2 hdg (fun H1 locs1 h1 hz hq hS1 => kk H1 locs1 ⟨hJ.1.set (k := 0) (by decide) (fun j hj => by simp only [mE, if_neg hj]; rfl) h1 hq, hS1⟩)
theorem mg_frame (hX : jq_X D Y aR A p s m args meth c cc own nm mx rt) (hJ : mJ D Y A s ad σ H locs) (hl : Cond.fieldLink own index "ScoreHandlesModel" "frame" "[I" ∈ lw_all) (hdg : decode cc pc = .ok (.getfield index, 3)) (kk : W p l e R s m args below meth c H locs cells slots Q (F0 m (pc + 3) ls (.ref (ad 11) :: rest))) : W p l e R s m args below meth c H locs cells slots Q (F0 m pc ls (.ref (ad 0) :: rest)) :=
  jq_rdf (ci := 9) (fs := mF ad σ) (C := RX11) (T := TX11) (N := 36) hX (hJ.1.1 0 (by decide)).1 ly_X11 rfl (k := 22) (by decide) hl rfl hdg kk
theorem mg_phase (hX : jq_X D Y aR A p s m args meth c cc own nm mx rt) (hJ : mJ D Y A s ad σ H locs) (hl : Cond.fieldLink own index "ScoreHandlesModel" "phase" "[I" ∈ lw_all) (hdg : decode cc pc = .ok (.getfield index, 3)) (kk : W p l e R s m args below meth c H locs cells slots Q (F0 m (pc + 3) ls (.ref (ad 12) :: rest))) : W p l e R s m args below meth c H locs cells slots Q (F0 m pc ls (.ref (ad 0) :: rest)) :=
  jq_rdf (ci := 9) (fs := mF ad σ) (C := RX11) (T := TX11) (N := 36) hX (hJ.1.1 0 (by decide)).1 ly_X11 rfl (k := 23) (by decide) hl rfl hdg kk
theorem mg_par (hX : jq_X D Y aR A p s m args meth c cc own nm mx rt) (hJ : mJ D Y A s ad σ H locs) (hl : Cond.fieldLink own index "ScoreHandlesModel" "par" "[J" ∈ lw_all) (hdg : decode cc pc = .ok (.getfield index, 3)) (kk : W p l e R s m args below meth c H locs cells slots Q (F0 m (pc + 3) ls (.ref (ad 18) :: rest))) : W p l e R s m args below meth c H locs cells slots Q (F0 m pc ls (.ref (ad 0) :: rest)) :=
  jq_rdf (ci := 9) (fs := mF ad σ) (C := RX11) (T := TX11) (N := 36) hX (hJ.1.1 0 (by decide)).1 ly_X11 rfl (k := 24) (by decide) hl rfl hdg kk
theorem mg_held (hX : jq_X D Y aR A p s m args meth c cc own nm mx rt) (hJ : mJ D Y A s ad σ H locs) (hl : Cond.fieldLink own index "ScoreHandlesModel" "held" "[J" ∈ lw_all) (hdg : decode cc pc = .ok (.getfield index, 3)) (kk : W p l e R s m args below meth c H locs cells slots Q (F0 m (pc + 3) ls (.ref (ad 19) :: rest))) : W p l e R s m args below meth c H locs cells slots Q (F0 m pc ls (.ref (ad 0) :: rest)) :=
  jq_rdf (ci := 9) (fs := mF ad σ) (C := RX11) (T := TX11) (N := 36) hX (hJ.1.1 0 (by decide)).1 ly_X11 rfl (k := 25) (by decide) hl rfl hdg kk
theorem mg_turn (hX : jq_X D Y aR A p s m args meth c cc own nm mx rt) (hJ : mJ D Y A s ad σ H locs) (hl : Cond.fieldLink own index "ScoreHandlesModel" "turn" "[I" ∈ lw_all) (hdg : decode cc pc = .ok (.getfield index, 3)) (kk : W p l e R s m args below meth c H locs cells slots Q (F0 m (pc + 3) ls (.ref (ad 13) :: rest))) : W p l e R s m args below meth c H locs cells slots Q (F0 m pc ls (.ref (ad 0) :: rest)) :=
  jq_rdf (ci := 9) (fs := mF ad σ) (C := RX11) (T := TX11) (N := 36) hX (hJ.1.1 0 (by decide)).1 ly_X11 rfl (k := 26) (by decide) hl rfl hdg kk
theorem mg_saved (hX : jq_X D Y aR A p s m args meth c cc own nm mx rt) (hJ : mJ D Y A s ad σ H locs) (hl : Cond.fieldLink own index "ScoreHandlesModel" "saved" "[I" ∈ lw_all) (hdg : decode cc pc = .ok (.getfield index, 3)) (kk : W p l e R s m args below meth c H locs cells slots Q (F0 m (pc + 3) ls (.ref (ad 14) :: rest))) : W p l e R s m args below meth c H locs cells slots Q (F0 m pc ls (.ref (ad 0) :: rest)) :=
  jq_rdf (ci := 9) (fs := mF ad σ) (C := RX11) (T := TX11) (N := 36) hX (hJ.1.1 0 (by decide)).1 ly_X11 rfl (k := 27) (by decide) hl rfl hdg kk
theorem mg_back {x : Int64} (hX : jq_X D Y aR A p s m args meth c cc own nm mx rt) (hJ : mJ D Y A s ad σ H locs) (hx : m_L σ 1 = x) (hl : Cond.fieldLink own index "ScoreHandlesModel" "back" "J" ∈ lw_all) (hdg : decode cc pc = .ok (.getfield index, 3)) (kk : W p l e R s m args below meth c H locs cells slots Q (F0 m (pc + 3) ls (.long x :: rest))) : W p l e R s m args below meth c H locs cells slots Q (F0 m pc ls (.ref (ad 0) :: rest)) :=
  jq_rdf (ci := 9) (fs := mF ad σ) (C := RX11) (T := TX11) (N := 36) hX (hJ.1.1 0 (by decide)).1 ly_X11 rfl (k := 28) (by decide) hl (by rw [← hx]; rfl) hdg kk
theorem mp_back {v : Int64} (hX : jq_X D Y aR A p s m args meth c cc own nm mx rt) (hJ : mJ D Y A s ad σ H locs) (hx : m_pL σ 1 v = σ1) (hl : Cond.fieldLink own index "ScoreHandlesModel" "back" "J" ∈ lw_all) (hdg : decode cc pc = .ok (.putfield index, 3)) (kk : ∀ (H1 : Heap) (locs1 : List Loc), mJ D Y A s ad σ1 H1 locs1 → W p l e R s m args below meth c H1 locs1 cells slots Q (F0 m (pc + 3) ls rest)) : W p l e R s m args below meth c H locs cells slots Q (F0 m pc ls (.long v :: .ref (ad 0) :: rest)) := by
  subst hx
  refine jq_wrf (ci := 9) (fs := mF ad σ) (C := RX11) (T := TX11) (N := 36) hX (hJ.1.1 0 (by decide)).1 ly_X11 tyX11_ok nmX11 rfl (k := 28) (by decide) hl (Or.inl rfl) (ty := .long) (by decide +kernel) rfl rfl (by show _ < _; simp [mF]) hJ.2 (hJ.1.1 0 (by decide)).2 hdg (fun H1 locs1 h1 hz hq hS1 => kk H1 locs1 ⟨hJ.1.set (k := 0) (by decide) (fun j hj => by simp only [mE, if_neg hj]; rfl) h1 hq, hS1⟩)
theorem mg_failure {x : Int32} (hX : jq_X D Y aR A p s m args meth c cc own nm mx rt) (hJ : mJ D Y A s ad σ H locs) (hx : m_I σ 8 = x) (hl : Cond.fieldLink own index "ScoreHandlesModel" "failure" "I" ∈ lw_all) (hdg : decode cc pc = .ok (.getfield index, 3)) (kk : W p l e R s m args below meth c H locs cells slots Q (F0 m (pc + 3) ls (.int x :: rest))) : W p l e R s m args below meth c H locs cells slots Q (F0 m pc ls (.ref (ad 0) :: rest)) :=
  jq_rdf (ci := 9) (fs := mF ad σ) (C := RX11) (T := TX11) (N := 36) hX (hJ.1.1 0 (by decide)).1 ly_X11 rfl (k := 29) (by decide) hl (by rw [← hx]; rfl) hdg kk
theorem mp_failure {v : Int32} (hX : jq_X D Y aR A p s m args meth c cc own nm mx rt) (hJ : mJ D Y A s ad σ H locs) (hx : m_pI σ 8 v = σ1) (hl : Cond.fieldLink own index "ScoreHandlesModel" "failure" "I" ∈ lw_all) (hdg : decode cc pc = .ok (.putfield index, 3)) (kk : ∀ (H1 : Heap) (locs1 : List Loc), mJ D Y A s ad σ1 H1 locs1 → W p l e R s m args below meth c H1 locs1 cells slots Q (F0 m (pc + 3) ls rest)) : W p l e R s m args below meth c H locs cells slots Q (F0 m pc ls (.int v :: .ref (ad 0) :: rest)) := by
  subst hx
  refine jq_wrf (ci := 9) (fs := mF ad σ) (C := RX11) (T := TX11) (N := 36) hX (hJ.1.1 0 (by decide)).1 ly_X11 tyX11_ok nmX11 rfl (k := 29) (by decide) hl (Or.inl rfl) (ty := .int) (by decide +kernel) rfl rfl (by show _ < _; simp [mF]) hJ.2 (hJ.1.1 0 (by decide)).2 hdg (fun H1 locs1 h1 hz hq hS1 => kk H1 locs1 ⟨hJ.1.set (k := 0) (by decide) (fun j hj => by simp only [mE, if_neg hj]; rfl) h1 hq, hS1⟩)
theorem mg_steps {x : Int32} (hX : jq_X D Y aR A p s m args meth c cc own nm mx rt) (hJ : mJ D Y A s ad σ H locs) (hx : m_I σ 9 = x) (hl : Cond.fieldLink own index "ScoreHandlesModel" "steps" "I" ∈ lw_all) (hdg : decode cc pc = .ok (.getfield index, 3)) (kk : W p l e R s m args below meth c H locs cells slots Q (F0 m (pc + 3) ls (.int x :: rest))) : W p l e R s m args below meth c H locs cells slots Q (F0 m pc ls (.ref (ad 0) :: rest)) :=
  jq_rdf (ci := 9) (fs := mF ad σ) (C := RX11) (T := TX11) (N := 36) hX (hJ.1.1 0 (by decide)).1 ly_X11 rfl (k := 30) (by decide) hl (by rw [← hx]; rfl) hdg kk
theorem mp_steps {v : Int32} (hX : jq_X D Y aR A p s m args meth c cc own nm mx rt) (hJ : mJ D Y A s ad σ H locs) (hx : m_pI σ 9 v = σ1) (hl : Cond.fieldLink own index "ScoreHandlesModel" "steps" "I" ∈ lw_all) (hdg : decode cc pc = .ok (.putfield index, 3)) (kk : ∀ (H1 : Heap) (locs1 : List Loc), mJ D Y A s ad σ1 H1 locs1 → W p l e R s m args below meth c H1 locs1 cells slots Q (F0 m (pc + 3) ls rest)) : W p l e R s m args below meth c H locs cells slots Q (F0 m pc ls (.int v :: .ref (ad 0) :: rest)) := by
  subst hx
  refine jq_wrf (ci := 9) (fs := mF ad σ) (C := RX11) (T := TX11) (N := 36) hX (hJ.1.1 0 (by decide)).1 ly_X11 tyX11_ok nmX11 rfl (k := 30) (by decide) hl (Or.inl rfl) (ty := .int) (by decide +kernel) rfl rfl (by show _ < _; simp [mF]) hJ.2 (hJ.1.1 0 (by decide)).2 hdg (fun H1 locs1 h1 hz hq hS1 => kk H1 locs1 ⟨hJ.1.set (k := 0) (by decide) (fun j hj => by simp only [mE, if_neg hj]; rfl) h1 hq, hS1⟩)
theorem mg_failures {x : Int32} (hX : jq_X D Y aR A p s m args meth c cc own nm mx rt) (hJ : mJ D Y A s ad σ H locs) (hx : m_I σ 10 = x) (hl : Cond.fieldLink own index "ScoreHandlesModel" "failures" "I" ∈ lw_all) (hdg : decode cc pc = .ok (.getfield index, 3)) (kk : W p l e R s m args below meth c H locs cells slots Q (F0 m (pc + 3) ls (.int x :: rest))) : W p l e R s m args below meth c H locs cells slots Q (F0 m pc ls (.ref (ad 0) :: rest)) :=
  jq_rdf (ci := 9) (fs := mF ad σ) (C := RX11) (T := TX11) (N := 36) hX (hJ.1.1 0 (by decide)).1 ly_X11 rfl (k := 31) (by decide) hl (by rw [← hx]; rfl) hdg kk
theorem mp_failures {v : Int32} (hX : jq_X D Y aR A p s m args meth c cc own nm mx rt) (hJ : mJ D Y A s ad σ H locs) (hx : m_pI σ 10 v = σ1) (hl : Cond.fieldLink own index "ScoreHandlesModel" "failures" "I" ∈ lw_all) (hdg : decode cc pc = .ok (.putfield index, 3)) (kk : ∀ (H1 : Heap) (locs1 : List Loc), mJ D Y A s ad σ1 H1 locs1 → W p l e R s m args below meth c H1 locs1 cells slots Q (F0 m (pc + 3) ls rest)) : W p l e R s m args below meth c H locs cells slots Q (F0 m pc ls (.int v :: .ref (ad 0) :: rest)) := by
  subst hx
  refine jq_wrf (ci := 9) (fs := mF ad σ) (C := RX11) (T := TX11) (N := 36) hX (hJ.1.1 0 (by decide)).1 ly_X11 tyX11_ok nmX11 rfl (k := 31) (by decide) hl (Or.inl rfl) (ty := .int) (by decide +kernel) rfl rfl (by show _ < _; simp [mF]) hJ.2 (hJ.1.1 0 (by decide)).2 hdg (fun H1 locs1 h1 hz hq hS1 => kk H1 locs1 ⟨hJ.1.set (k := 0) (by decide) (fun j hj => by simp only [mE, if_neg hj]; rfl) h1 hq, hS1⟩)
theorem mg_blamed {x : Int32} (hX : jq_X D Y aR A p s m args meth c cc own nm mx rt) (hJ : mJ D Y A s ad σ H locs) (hx : m_I σ 11 = x) (hl : Cond.fieldLink own index "ScoreHandlesModel" "blamed" "I" ∈ lw_all) (hdg : decode cc pc = .ok (.getfield index, 3)) (kk : W p l e R s m args below meth c H locs cells slots Q (F0 m (pc + 3) ls (.int x :: rest))) : W p l e R s m args below meth c H locs cells slots Q (F0 m pc ls (.ref (ad 0) :: rest)) :=
  jq_rdf (ci := 9) (fs := mF ad σ) (C := RX11) (T := TX11) (N := 36) hX (hJ.1.1 0 (by decide)).1 ly_X11 rfl (k := 32) (by decide) hl (by rw [← hx]; rfl) hdg kk
theorem mp_blamed {v : Int32} (hX : jq_X D Y aR A p s m args meth c cc own nm mx rt) (hJ : mJ D Y A s ad σ H locs) (hx : m_pI σ 11 v = σ1) (hl : Cond.fieldLink own index "ScoreHandlesModel" "blamed" "I" ∈ lw_all) (hdg : decode cc pc = .ok (.putfield index, 3)) (kk : ∀ (H1 : Heap) (locs1 : List Loc), mJ D Y A s ad σ1 H1 locs1 → W p l e R s m args below meth c H1 locs1 cells slots Q (F0 m (pc + 3) ls rest)) : W p l e R s m args below meth c H locs cells slots Q (F0 m pc ls (.int v :: .ref (ad 0) :: rest)) := by
  subst hx
  refine jq_wrf (ci := 9) (fs := mF ad σ) (C := RX11) (T := TX11) (N := 36) hX (hJ.1.1 0 (by decide)).1 ly_X11 tyX11_ok nmX11 rfl (k := 32) (by decide) hl (Or.inl rfl) (ty := .int) (by decide +kernel) rfl rfl (by show _ < _; simp [mF]) hJ.2 (hJ.1.1 0 (by decide)).2 hdg (fun H1 locs1 h1 hz hq hS1 => kk H1 locs1 ⟨hJ.1.set (k := 0) (by decide) (fun j hj => by simp only [mE, if_neg hj]; rfl) h1 hq, hS1⟩)
theorem mg_runs {x : Int32} (hX : jq_X D Y aR A p s m args meth c cc own nm mx rt) (hJ : mJ D Y A s ad σ H locs) (hx : m_I σ 12 = x) (hl : Cond.fieldLink own index "ScoreHandlesModel" "runs" "I" ∈ lw_all) (hdg : decode cc pc = .ok (.getfield index, 3)) (kk : W p l e R s m args below meth c H locs cells slots Q (F0 m (pc + 3) ls (.int x :: rest))) : W p l e R s m args below meth c H locs cells slots Q (F0 m pc ls (.ref (ad 0) :: rest)) :=
  jq_rdf (ci := 9) (fs := mF ad σ) (C := RX11) (T := TX11) (N := 36) hX (hJ.1.1 0 (by decide)).1 ly_X11 rfl (k := 33) (by decide) hl (by rw [← hx]; rfl) hdg kk
theorem mp_runs {v : Int32} (hX : jq_X D Y aR A p s m args meth c cc own nm mx rt) (hJ : mJ D Y A s ad σ H locs) (hx : m_pI σ 12 v = σ1) (hl : Cond.fieldLink own index "ScoreHandlesModel" "runs" "I" ∈ lw_all) (hdg : decode cc pc = .ok (.putfield index, 3)) (kk : ∀ (H1 : Heap) (locs1 : List Loc), mJ D Y A s ad σ1 H1 locs1 → W p l e R s m args below meth c H1 locs1 cells slots Q (F0 m (pc + 3) ls rest)) : W p l e R s m args below meth c H locs cells slots Q (F0 m pc ls (.int v :: .ref (ad 0) :: rest)) := by
  subst hx
  refine jq_wrf (ci := 9) (fs := mF ad σ) (C := RX11) (T := TX11) (N := 36) hX (hJ.1.1 0 (by decide)).1 ly_X11 tyX11_ok nmX11 rfl (k := 33) (by decide) hl (Or.inl rfl) (ty := .int) (by decide +kernel) rfl rfl (by show _ < _; simp [mF]) hJ.2 (hJ.1.1 0 (by decide)).2 hdg (fun H1 locs1 h1 hz hq hS1 => kk H1 locs1 ⟨hJ.1.set (k := 0) (by decide) (fun j hj => by simp only [mE, if_neg hj]; rfl) h1 hq, hS1⟩)
theorem mg_value {x : Int64} (hX : jq_X D Y aR A p s m args meth c cc own nm mx rt) (hJ : mJ D Y A s ad σ H locs) (hx : m_L σ 2 = x) (hl : Cond.fieldLink own index "ScoreHandlesModel" "value" "J" ∈ lw_all) (hdg : decode cc pc = .ok (.getfield index, 3)) (kk : W p l e R s m args below meth c H locs cells slots Q (F0 m (pc + 3) ls (.long x :: rest))) : W p l e R s m args below meth c H locs cells slots Q (F0 m pc ls (.ref (ad 0) :: rest)) :=
  jq_rdf (ci := 9) (fs := mF ad σ) (C := RX11) (T := TX11) (N := 36) hX (hJ.1.1 0 (by decide)).1 ly_X11 rfl (k := 34) (by decide) hl (by rw [← hx]; rfl) hdg kk
theorem mp_value {v : Int64} (hX : jq_X D Y aR A p s m args meth c cc own nm mx rt) (hJ : mJ D Y A s ad σ H locs) (hx : m_pL σ 2 v = σ1) (hl : Cond.fieldLink own index "ScoreHandlesModel" "value" "J" ∈ lw_all) (hdg : decode cc pc = .ok (.putfield index, 3)) (kk : ∀ (H1 : Heap) (locs1 : List Loc), mJ D Y A s ad σ1 H1 locs1 → W p l e R s m args below meth c H1 locs1 cells slots Q (F0 m (pc + 3) ls rest)) : W p l e R s m args below meth c H locs cells slots Q (F0 m pc ls (.long v :: .ref (ad 0) :: rest)) := by
  subst hx
  refine jq_wrf (ci := 9) (fs := mF ad σ) (C := RX11) (T := TX11) (N := 36) hX (hJ.1.1 0 (by decide)).1 ly_X11 tyX11_ok nmX11 rfl (k := 34) (by decide) hl (Or.inl rfl) (ty := .long) (by decide +kernel) rfl rfl (by show _ < _; simp [mF]) hJ.2 (hJ.1.1 0 (by decide)).2 hdg (fun H1 locs1 h1 hz hq hS1 => kk H1 locs1 ⟨hJ.1.set (k := 0) (by decide) (fun j hj => by simp only [mE, if_neg hj]; rfl) h1 hq, hS1⟩)
theorem mg_hand (hX : jq_X D Y aR A p s m args meth c cc own nm mx rt) (hJ : mJ D Y A s ad σ H locs) (hl : Cond.fieldLink own index "ScoreHandlesModel" "hand" "[J" ∈ lw_all) (hdg : decode cc pc = .ok (.getfield index, 3)) (kk : W p l e R s m args below meth c H locs cells slots Q (F0 m (pc + 3) ls (.ref (ad 20) :: rest))) : W p l e R s m args below meth c H locs cells slots Q (F0 m pc ls (.ref (ad 0) :: rest)) :=
  jq_rdf (ci := 9) (fs := mF ad σ) (C := RX11) (T := TX11) (N := 36) hX (hJ.1.1 0 (by decide)).1 ly_X11 rfl (k := 35) (by decide) hl rfl hdg kk
theorem mE_I (σ : mS) {k : Nat} (hk : 1 ≤ k ∧ k < 15) : mE Y ad σ k = .inl (Y 0, m_n k, .inl (m_aI σ k)) := by simp only [mE]; rw [if_neg (by omega), if_pos (by omega)]
theorem ma_I (k : Nat) {i : Int32} {x : Int32} (hX : jq_X D Y aR A p s m args meth c cc own nm mx rt) (hJ : mJ D Y A s ad σ H locs) (hk : 1 ≤ k ∧ k < 15) (hin : ¬ (i < 0 ∨ m_n k ≤ i.toNatClampNeg)) (hx : m_aI σ k i.toNatClampNeg = x) (hdg : decode cc pc = .ok (.iaload, 1)) (kk : W p l e R s m args below meth c H locs cells slots Q (F0 m (pc + 1) ls (.int x :: rest))) : W p l e R s m args below meth c H locs cells slots Q (F0 m pc ls (.int i :: .ref (ad k) :: rest)) := by
  have h := (hJ.1.1 k (by omega)).1
  rw [mE_I σ hk] at h
  subst hx
  exact va_iald hX.1 hX.2.1 hX.2.2.2.2.2.1.1 (jq_oneA h) 0 0 rfl rfl hin hdg kk
theorem mw_I (k : Nat) {i : Int32} {v : Int32} (hX : jq_X D Y aR A p s m args meth c cc own nm mx rt) (hJ : mJ D Y A s ad σ H locs) (hk : 1 ≤ k ∧ k < 15) (hin : ¬ (i < 0 ∨ m_n k ≤ i.toNatClampNeg)) (hx : m_wI σ k i.toNatClampNeg v = σ1) (hdg : decode cc pc = .ok (.iastore, 1)) (kk : ∀ (H1 : Heap) (locs1 : List Loc), mJ D Y A s ad σ1 H1 locs1 → W p l e R s m args below meth c H1 locs1 cells slots Q (F0 m (pc + 1) ls rest)) : W p l e R s m args below meth c H locs cells slots Q (F0 m pc ls (.int v :: .int i :: .ref (ad k) :: rest)) := by
  subst hx
  have h := (hJ.1.1 k (by omega)).1
  rw [mE_I σ hk] at h
  refine W.iast hX.1 hX.2.1 h ((hX.2.2.2.2.2.1.1.2 0 _ rfl).1 _ (fun j => .int (m_aI σ k j))) (fun q => by cases q) (by show ¬ (i < 0 ∨ (arrV _ _ _).slots.size ≤ _); rw [arrV_size]; exact hin) rfl rfl hdg fun H1 e z oq => ?_
  refine kk H1 _ ⟨hJ.1.set (k := k) (by omega) (fun j hj => ?_) ?_ oq, hJ.2.put z oq (hJ.1.1 k (by omega)).2⟩
  · have hj2 : m_aI (m_wI σ k i.toNatClampNeg v) j = m_aI σ j := by funext q; simp [maI_wI, hj]
    by_cases h0 : j = 0
    · subst h0; rfl
    · by_cases h1 : j < 15
      · simp only [mE, if_neg h0, if_pos h1]; first | rw [hj2] | rfl
      · simp only [mE, if_neg h0, if_neg h1]; first | rw [hj2] | rfl
  rw [mE_I _ hk]
  show H1[ad k]? = some (vp_cell _ _)
  rw [e]
  show some ((arrV (Y 0) (m_n k) (fun j => .int (m_aI σ k j))).setSlot i.toNatClampNeg (.int v)) = some (arrV (Y 0) (m_n k) (fun j => .int (m_aI (m_wI σ k i.toNatClampNeg v) k j)))
  rw [arrV_store]
  congr 2
  funext q
  by_cases hq : q = i.toNatClampNeg
  · subst hq; simp [updV, maI_wI]
  · simp [updV, maI_wI, hq]
theorem mE_L (σ : mS) {k : Nat} (hk : 15 ≤ k ∧ k < 21) : mE Y ad σ k = .inl (Y 1, m_n k, .inr (.inl (m_aL σ k))) := by simp only [mE]; rw [if_neg (by omega), if_neg (by omega)]
theorem ma_L (k : Nat) {i : Int32} {x : Int64} (hX : jq_X D Y aR A p s m args meth c cc own nm mx rt) (hJ : mJ D Y A s ad σ H locs) (hk : 15 ≤ k ∧ k < 21) (hin : ¬ (i < 0 ∨ m_n k ≤ i.toNatClampNeg)) (hx : m_aL σ k i.toNatClampNeg = x) (hdg : decode cc pc = .ok (.laload, 1)) (kk : W p l e R s m args below meth c H locs cells slots Q (F0 m (pc + 1) ls (.long x :: rest))) : W p l e R s m args below meth c H locs cells slots Q (F0 m pc ls (.int i :: .ref (ad k) :: rest)) := by
  have h := (hJ.1.1 k (by omega)).1
  rw [mE_L σ hk] at h
  subst hx
  exact va_lald hX.1 hX.2.1 hX.2.2.2.2.2.1.1 (jq_oneA h) 0 1 rfl rfl hin hdg kk
theorem mw_L (k : Nat) {i : Int32} {v : Int64} (hX : jq_X D Y aR A p s m args meth c cc own nm mx rt) (hJ : mJ D Y A s ad σ H locs) (hk : 15 ≤ k ∧ k < 21) (hin : ¬ (i < 0 ∨ m_n k ≤ i.toNatClampNeg)) (hx : m_wL σ k i.toNatClampNeg v = σ1) (hdg : decode cc pc = .ok (.lastore, 1)) (kk : ∀ (H1 : Heap) (locs1 : List Loc), mJ D Y A s ad σ1 H1 locs1 → W p l e R s m args below meth c H1 locs1 cells slots Q (F0 m (pc + 1) ls rest)) : W p l e R s m args below meth c H locs cells slots Q (F0 m pc ls (.long v :: .int i :: .ref (ad k) :: rest)) := by
  subst hx
  have h := (hJ.1.1 k (by omega)).1
  rw [mE_L σ hk] at h
  refine W.last hX.1 hX.2.1 h ((hX.2.2.2.2.2.1.1.2 1 _ rfl).1 _ (fun j => .long (m_aL σ k j))) (fun q => by cases q) (by show ¬ (i < 0 ∨ (arrV _ _ _).slots.size ≤ _); rw [arrV_size]; exact hin) rfl rfl hdg fun H1 e z oq => ?_
  refine kk H1 _ ⟨hJ.1.set (k := k) (by omega) (fun j hj => ?_) ?_ oq, hJ.2.put z oq (hJ.1.1 k (by omega)).2⟩
  · have hj2 : m_aL (m_wL σ k i.toNatClampNeg v) j = m_aL σ j := by funext q; simp [maL_wL, hj]
    by_cases h0 : j = 0
    · subst h0; rfl
    · by_cases h1 : j < 15
      · simp only [mE, if_neg h0, if_pos h1]; first | rw [hj2] | rfl
      · simp only [mE, if_neg h0, if_neg h1]; first | rw [hj2] | rfl
  rw [mE_L _ hk]
  show H1[ad k]? = some (vp_cell _ _)
  rw [e]
  show some ((arrV (Y 1) (m_n k) (fun j => .long (m_aL σ k j))).setSlot i.toNatClampNeg (.long v)) = some (arrV (Y 1) (m_n k) (fun j => .long (m_aL (m_wL σ k i.toNatClampNeg v) k j)))
  rw [arrV_store]
  congr 2
  funext q
  by_cases hq : q = i.toNatClampNeg
  · subst hq; simp [updV, maL_wL]
  · simp [updV, maL_wL, hq]
end MD
theorem qm_max : Cond.code Lib.Math.max.name Lib.Math.max.code 2 (some .int) ∈ lw_all := lw_in 172 (by decide +kernel) rfl
theorem qm_min : Cond.code Lib.Math.min.name Lib.Math.min.code 2 (some .int) ∈ lw_all := lw_in 169 (by decide +kernel) rfl
theorem qm_minl : Cond.code Lib.MathLoose.min_long.x Lib.MathLoose.min_long.code 4 (some .long) ∈ lw_all := lw_in 636 (by decide +kernel) rfl
theorem qm_absl : Cond.code Lib.MathLoose.abs_long.x Lib.MathLoose.abs_long.code 2 (some .long) ∈ lw_all := lw_in 510 (by decide +kernel) rfl
end
section
/-! small helps for the walks -/
theorem qc_lt {x y : Int64} : lg_cmp x y < 0 ↔ x < y := by
  unfold lg_cmp; split
  · next h => exact ⟨fun z => absurd z (by decide), fun z => absurd z (Int64.not_lt.mpr (Int64.le_of_lt h))⟩
  · split
    · next h => subst h; exact ⟨fun z => absurd z (by decide), fun z => (Int64.lt_irrefl z).elim⟩
    · next h1 h2 => exact ⟨fun _ => by rcases Int64.lt_or_lt_of_ne h2 with z | z; exact z; exact absurd z h1, fun _ => by decide⟩
theorem qc_gt {x y : Int64} : 0 < lg_cmp x y ↔ y < x := by
  unfold lg_cmp; split
  · next h => exact ⟨fun _ => h, fun _ => by decide⟩
  · split
    · next h => subst h; exact ⟨fun z => absurd z (by decide), fun z => (Int64.lt_irrefl z).elim⟩
    · next h1 h2 => exact ⟨fun z => absurd z (by decide), fun z => absurd z h1⟩
theorem qc_eq {x y : Int64} : lg_cmp x y = 0 ↔ x = y := by
  unfold lg_cmp; split
  · next h => exact ⟨fun z => absurd z (by decide), fun z => by subst z; exact (Int64.lt_irrefl h).elim⟩
  · split
    · next h => exact ⟨fun _ => h, fun _ => rfl⟩
    · next h1 h2 => exact ⟨fun z => absurd z (by decide), fun z => absurd z h2⟩
theorem qc_ge {x y : Int64} : 0 ≤ lg_cmp x y ↔ y ≤ x := by
  rw [← Int32.not_lt, qc_lt, Int64.not_lt]
theorem qc_le {x y : Int64} : lg_cmp x y ≤ 0 ↔ x ≤ y := by
  rw [← Int32.not_lt, qc_gt, Int64.not_lt]
theorem qz_b {v : Int32} (h : v = 0 ∨ v = 1) : narrow .boolean (.int v) = .int v := by rcases h with rfl | rfl <;> rfl
theorem sw_ne {x k : Int32} (h : ¬ x = k) {n : Int} (hn : k.toInt = n) : x.toInt ≠ n := fun z => h (Int32.toInt_inj.mp (z.trans hn.symm))
theorem wJ.cl {D : va_G} {Y : Nat → ClassId} {A : Nat → Prop} {s : State} {S0 S : wS} {H : Heap} {locs : List Loc} (h : wJ D Y A s S0 S H locs) : s_nx S - s_nx S0 ≤ s_lm S0 - s_nx S0 := by
  obtain ⟨⟨a1, a2, a3, a4, a5, a6⟩, -, -⟩ := h; omega
theorem wJ.sl {D : va_G} {Y : Nat → ClassId} {A : Nat → Prop} {s : State} {S0 S : wS} {H : Heap} {locs : List Loc} (h : wJ D Y A s S0 S H locs) : s_sl S - s_sl S0 ≤ s_sm S0 - s_sl S0 := by
  obtain ⟨⟨a1, a2, a3, a4, a5, a6⟩, -, -⟩ := h; omega
theorem mJ.to {D : va_G} {Y : Nat → ClassId} {A : Nat → Prop} {s : State} {ad : Nat → Nat} {σ : mS} {H : Heap} {locs locs1 : List Loc} (h : mJ D Y A s ad σ H locs) (h1 : va_S A s.heap H locs1) : mJ D Y A s ad σ H locs1 := ⟨h.1, h1⟩
section PN
variable {p : Program} {l : Launch} {e : Env} {R : Room} {s : State} {m : MethodId} {args : Array Value} {below : List Frame} {meth : Method} {c : Code} {H : Heap} {locs : List Loc} {cells slots : Nat} {Q : State → Prop}
variable {D : va_G} {Y : Nat → ClassId} {aR : Nat → Nat} {A : Nat → Prop} {cc : ByteArray} {own nm : String} {mx : Nat} {rt : Option FieldType} {pc : Nat} {ls : Array Slot} {st rest : List Value} {a index : Nat}
theorem jq_wrfN {ci k N : Nat} {C host : String} {T : u_T} {fs : List Value} {v : Value} {ty : FieldType} {ty0 : Nat → FieldType} (hX : jq_X D Y aR A p s m args meth c cc own nm mx rt) (hat : va_at D vwCl (a, .inr (ci, fs)) H) (hin : ∀ w ∈ u_ws C T N, w ∈ lw_all) (hty : ∀ k, k < N → parseFieldDescriptor (T k).2.2.1 = some (ty0 k)) (hnm : ∀ a, a < N → ∀ b, b < N → a ≠ b → (T a).2.1 ≠ (T b).2.1) (hc : vwCl[ci]? = some (C, T, N)) (hk : k < N)
    (hl : Cond.fieldLinkNest own index (T k).1 (T k).2.1 (T k).2.2.1 host ∈ lw_nest) (hfin : (T k).2.2.2 = false) (hd : parseFieldDescriptor (T k).2.2.1 = some ty) (hn : narrow ty v = v) (hfit : fits ty v = true) (hlen : k < fs.length) (hS : va_S A s.heap H locs) (hA : A a) (hdg : decode cc pc = .ok (.putfield index, 3))
    (kk : ∀ (H1 : Heap) (locs1 : List Loc), va_at D vwCl (a, .inr (ci, fs.set k v)) H1 → H1.size = H.size → (∀ q : Nat, q ≠ a → H1[q]? = H[q]?) → va_S A s.heap H1 locs1 → W p l e R s m args below meth c H1 locs1 cells slots Q (F0 m (pc + 3) ls rest)) : W p l e R s m args below meth c H locs cells slots Q (F0 m pc ls (v :: .ref a :: rest)) := by
  obtain ⟨hx, hb, -, hown, hts, ⟨hK, hnst, -⟩, -⟩ := hX
  have hap := va_apart (own := own) hts hin ty0 hty hnm hK hc
  obtain ⟨r, h1, cell, q1, q2, q3, q4⟩ := hat
  have hr : r = (C, T, N) := Option.some.inj (h1.symm.trans hc)
  subst hr
  obtain ⟨hSl, hfc, kC, hkC, hkind⟩ := hK.1 ci _ hc
  obtain ⟨cf, kf, fi, f, hi, hsl⟩ := hSl k hk
  have hst := (u_facts hfc hkC (u_lays hts hin hk) hi).1
  have hlay := hts _ (hin _ (u_in_lay hk))
  unfold u_lay at hlay
  rw [if_neg (by rw [hfin]; decide)] at hlay
  have h6 := u_store hfc hkC hkind hlay hi hd hn hfit
  refine va_WputK hx hb (f := f) hown (va_Nw.use rfl (hnst _ hl)) hi hst (by rw [q2]; exact h6) q1 q3 (by rw [hsl]; exact k2_hasslot (q4 k hk)) rfl rfl hdg fun H' e1 e2 e3 => ?_
  rw [hsl] at e1 ⊢
  exact kk H' _ ⟨_, hc, t_OB.to (V := updV (vp_V fs) k v) ⟨_, e1, q2, q3, t_set q4 hap hk v⟩ (fun j _ => vp_updV_set hlen v j)⟩ e2 e3 (hS.put e2 e3 hA)
theorem pn_X0_number {S0 S S1 : wS} {v : Int32} {host : String} (hX : jq_X D Y aR A p s m args meth c cc own nm mx rt) (hJ : wJ D Y A s S0 S H locs) (hk : s_K S a = 1) (hx : s_pI S 4 a v = S1) (hl : Cond.fieldLinkNest own index "ScoreHandles$Handle" "number" "I" host ∈ lw_nest) (hdg : decode cc pc = .ok (.putfield index, 3)) (kk : ∀ (H1 : Heap) (locs1 : List Loc), wJ D Y A s S0 S1 H1 locs1 → W p l e R s m args below meth c H1 locs1 (s_nx S1 - s_nx S0) (s_sl S1 - s_sl S0) Q (F0 m (pc + 3) ls rest)) : W p l e R s m args below meth c H locs (s_nx S - s_nx S0) (s_sl S - s_sl S0) Q (F0 m pc ls (.int v :: .ref a :: rest)) := by
  subst hx
  have h := hJ.2.1.at (a := a) (by rw [hk]; decide)
  rw [wE_X0 hk] at h
  refine jq_wrfN hX h ly_X0 tyX0_ok nmX0 rfl (k := 6) (by decide) hl rfl (ty := .int) (by decide +kernel) rfl rfl (by show _ < _; simp) hJ.2.2 (hJ.2.1.2 a (by rw [hk]; decide)).2 hdg (fun H1 locs1 h1 hz hq hS1 => kk H1 locs1 ⟨hJ.1, hJ.2.1.set (a := a) (by rw [hk]; decide) rfl rfl (fun b hb => wE_pI S 4 a _ hb) ?_ hz hq, hS1⟩)
  rw [wE_X0 (S := s_pI S 4 a _) hk]
  simp only [I_pI, L_pI, R_pI, and_true, if_true, reduceIte, Nat.reduceEqDiff, false_and]
  exact h1
end PN
end
section
theorem dX2_isLane_0 : decode cX2_isLane 0 = .ok (.iload_n 0, 1) := by decide +kernel
theorem dX2_isLane_1 : decode cX2_isLane 1 = .ok (.ifCond .lt 13, 3) := by decide +kernel
theorem dX2_isLane_14 : decode cX2_isLane 14 = .ok (.iconst 0, 1) := by decide +kernel
theorem dX2_isLane_15 : decode cX2_isLane 15 = .ok (.ireturn, 1) := by decide +kernel
theorem dX2_isLane_4 : decode cX2_isLane 4 = .ok (.iload_n 0, 1) := by decide +kernel
theorem dX2_isLane_5 : decode cX2_isLane 5 = .ok (.bipush 7, 2) := by decide +kernel
theorem dX2_isLane_7 : decode cX2_isLane 7 = .ok (.if_icmp .gt 7, 3) := by decide +kernel
theorem dX2_isLane_10 : decode cX2_isLane 10 = .ok (.iconst 1, 1) := by decide +kernel
theorem dX2_isLane_11 : decode cX2_isLane 11 = .ok (.goto 4, 3) := by decide +kernel
theorem hy_X2_isLane : yX2_isLane.cls ≠ "java/lang/invoke/MethodHandle" ∧ yX2_isLane.cls ≠ "java/lang/invoke/VarHandle" ∧ (parseMethodDescriptor yX2_isLane.desc).map (fun d => d.parameters.length) = some 1 := ⟨by decide, by decide, by decide +kernel⟩
def f_X2_isLane (p1 : Int32) : Option (Int32) :=
  if p1 < 0 then (
  some 0) else (
  if 7 < p1 then (
  some 0) else (
  some 1))
set_option maxHeartbeats 4000000 in
set_option maxRecDepth 100000 in
theorem c_X2_isLane {l : Launch} {D : va_G} {Y : Nat → ClassId} {aR : Nat → Nat} {A : Nat → Prop} {p1 : Int32} {r : Int32} (hf : f_X2_isLane p1 = some r) : jq_P l D Y aR A yX2_isLane cX2_isLane 1 (some .boolean) 0 0 [.int p1] (some (.int r)) := by
  unfold f_X2_isLane at hf
  refine jq_enterP (by decide) (Nat.le_of_ble_eq_true rfl) fun p e s m args below meth c ls H locs hX hS hl => ?_
  have hl : lv_has ls 1 [(0, .int p1)] := hl
  have hx := hX.1
  have hb := hX.2.1
  have hm := hX.2.2.1
  have ho := hX.2.2.2.1
  have ht := hX.2.2.2.2.1
  have hn := hX.2.2.2.2.2.1.2.1
  refine lv_iload_n hx hb dX2_isLane_0 rfl (lv_at hl 0 rfl) ?_
  refine lv_if_lt (tgt := 14) hx hb dX2_isLane_1 (by decide) (fun c1 => ?_) (fun c1 => ?_)
  · have hf := o_t hf c1
    refine lv_iconst (v := 0) hx hb dX2_isLane_14 (by decide) ?_
    cases hf
    exact jq_zret hX hS (by decide) dX2_isLane_15 ⟨rfl, rfl, rfl, rfl⟩
  · have hf := o_f hf c1
    refine lv_iload_n hx hb dX2_isLane_4 rfl (lv_at hl 0 rfl) ?_
    refine lv_bipush (v := 7) hx hb dX2_isLane_5 (by decide) ?_
    refine lv_icmp_gt (tgt := 14) hx hb dX2_isLane_7 (by decide) (fun c2 => ?_) (fun c2 => ?_)
    · have hf := o_t hf c2
      refine lv_iconst (v := 0) hx hb dX2_isLane_14 (by decide) ?_
      cases hf
      exact jq_zret hX hS (by decide) dX2_isLane_15 ⟨rfl, rfl, rfl, rfl⟩
    · have hf := o_f hf c2
      refine lv_iconst (v := 1) hx hb dX2_isLane_10 (by decide) ?_
      refine lv_goto (tgt := 15) hx hb dX2_isLane_11 (by decide) ?_
      cases hf
      exact jq_zret hX hS (by decide) dX2_isLane_15 ⟨rfl, rfl, rfl, rfl⟩
theorem dX2_isKind_0 : decode cX2_isKind 0 = .ok (.iload_n 0, 1) := by decide +kernel
theorem dX2_isKind_1 : decode cX2_isKind 1 = .ok (.ifCond .lt 13, 3) := by decide +kernel
theorem dX2_isKind_14 : decode cX2_isKind 14 = .ok (.iconst 0, 1) := by decide +kernel
theorem dX2_isKind_15 : decode cX2_isKind 15 = .ok (.ireturn, 1) := by decide +kernel
theorem dX2_isKind_4 : decode cX2_isKind 4 = .ok (.iload_n 0, 1) := by decide +kernel
theorem dX2_isKind_5 : decode cX2_isKind 5 = .ok (.bipush 16, 2) := by decide +kernel
theorem dX2_isKind_7 : decode cX2_isKind 7 = .ok (.if_icmp .gt 7, 3) := by decide +kernel
theorem dX2_isKind_10 : decode cX2_isKind 10 = .ok (.iconst 1, 1) := by decide +kernel
theorem dX2_isKind_11 : decode cX2_isKind 11 = .ok (.goto 4, 3) := by decide +kernel
theorem hy_X2_isKind : yX2_isKind.cls ≠ "java/lang/invoke/MethodHandle" ∧ yX2_isKind.cls ≠ "java/lang/invoke/VarHandle" ∧ (parseMethodDescriptor yX2_isKind.desc).map (fun d => d.parameters.length) = some 1 := ⟨by decide, by decide, by decide +kernel⟩
def f_X2_isKind (p1 : Int32) : Option (Int32) :=
  if p1 < 0 then (
  some 0) else (
  if 16 < p1 then (
  some 0) else (
  some 1))
set_option maxHeartbeats 4000000 in
set_option maxRecDepth 100000 in
theorem c_X2_isKind {l : Launch} {D : va_G} {Y : Nat → ClassId} {aR : Nat → Nat} {A : Nat → Prop} {p1 : Int32} {r : Int32} (hf : f_X2_isKind p1 = some r) : jq_P l D Y aR A yX2_isKind cX2_isKind 1 (some .boolean) 0 0 [.int p1] (some (.int r)) := by
  unfold f_X2_isKind at hf
  refine jq_enterP (by decide) (Nat.le_of_ble_eq_true rfl) fun p e s m args below meth c ls H locs hX hS hl => ?_
  have hl : lv_has ls 1 [(0, .int p1)] := hl
  have hx := hX.1
  have hb := hX.2.1
  have hm := hX.2.2.1
  have ho := hX.2.2.2.1
  have ht := hX.2.2.2.2.1
  have hn := hX.2.2.2.2.2.1.2.1
  refine lv_iload_n hx hb dX2_isKind_0 rfl (lv_at hl 0 rfl) ?_
  refine lv_if_lt (tgt := 14) hx hb dX2_isKind_1 (by decide) (fun c1 => ?_) (fun c1 => ?_)
  · have hf := o_t hf c1
    refine lv_iconst (v := 0) hx hb dX2_isKind_14 (by decide) ?_
    cases hf
    exact jq_zret hX hS (by decide) dX2_isKind_15 ⟨rfl, rfl, rfl, rfl⟩
  · have hf := o_f hf c1
    refine lv_iload_n hx hb dX2_isKind_4 rfl (lv_at hl 0 rfl) ?_
    refine lv_bipush (v := 16) hx hb dX2_isKind_5 (by decide) ?_
    refine lv_icmp_gt (tgt := 14) hx hb dX2_isKind_7 (by decide) (fun c2 => ?_) (fun c2 => ?_)
    · have hf := o_t hf c2
      refine lv_iconst (v := 0) hx hb dX2_isKind_14 (by decide) ?_
      cases hf
      exact jq_zret hX hS (by decide) dX2_isKind_15 ⟨rfl, rfl, rfl, rfl⟩
    · have hf := o_f hf c2
      refine lv_iconst (v := 1) hx hb dX2_isKind_10 (by decide) ?_
      refine lv_goto (tgt := 15) hx hb dX2_isKind_11 (by decide) ?_
      cases hf
      exact jq_zret hX hS (by decide) dX2_isKind_15 ⟨rfl, rfl, rfl, rfl⟩
theorem dX8_isSort_0 : decode cX8_isSort 0 = .ok (.iload_n 0, 1) := by decide +kernel
theorem dX8_isSort_1 : decode cX8_isSort 1 = .ok (.ifCond .lt 13, 3) := by decide +kernel
theorem dX8_isSort_14 : decode cX8_isSort 14 = .ok (.iconst 0, 1) := by decide +kernel
theorem dX8_isSort_15 : decode cX8_isSort 15 = .ok (.ireturn, 1) := by decide +kernel
theorem dX8_isSort_4 : decode cX8_isSort 4 = .ok (.iload_n 0, 1) := by decide +kernel
theorem dX8_isSort_5 : decode cX8_isSort 5 = .ok (.bipush 22, 2) := by decide +kernel
theorem dX8_isSort_7 : decode cX8_isSort 7 = .ok (.if_icmp .gt 7, 3) := by decide +kernel
theorem dX8_isSort_10 : decode cX8_isSort 10 = .ok (.iconst 1, 1) := by decide +kernel
theorem dX8_isSort_11 : decode cX8_isSort 11 = .ok (.goto 4, 3) := by decide +kernel
theorem hy_X8_isSort : yX8_isSort.cls ≠ "java/lang/invoke/MethodHandle" ∧ yX8_isSort.cls ≠ "java/lang/invoke/VarHandle" ∧ (parseMethodDescriptor yX8_isSort.desc).map (fun d => d.parameters.length) = some 1 := ⟨by decide, by decide, by decide +kernel⟩
def f_X8_isSort (p1 : Int32) : Option (Int32) :=
  if p1 < 0 then (
  some 0) else (
  if 22 < p1 then (
  some 0) else (
  some 1))
set_option maxHeartbeats 4000000 in
set_option maxRecDepth 100000 in
theorem c_X8_isSort {l : Launch} {D : va_G} {Y : Nat → ClassId} {aR : Nat → Nat} {A : Nat → Prop} {p1 : Int32} {r : Int32} (hf : f_X8_isSort p1 = some r) : jq_P l D Y aR A yX8_isSort cX8_isSort 1 (some .boolean) 0 0 [.int p1] (some (.int r)) := by
  unfold f_X8_isSort at hf
  refine jq_enterP (by decide) (Nat.le_of_ble_eq_true rfl) fun p e s m args below meth c ls H locs hX hS hl => ?_
  have hl : lv_has ls 1 [(0, .int p1)] := hl
  have hx := hX.1
  have hb := hX.2.1
  have hm := hX.2.2.1
  have ho := hX.2.2.2.1
  have ht := hX.2.2.2.2.1
  have hn := hX.2.2.2.2.2.1.2.1
  refine lv_iload_n hx hb dX8_isSort_0 rfl (lv_at hl 0 rfl) ?_
  refine lv_if_lt (tgt := 14) hx hb dX8_isSort_1 (by decide) (fun c1 => ?_) (fun c1 => ?_)
  · have hf := o_t hf c1
    refine lv_iconst (v := 0) hx hb dX8_isSort_14 (by decide) ?_
    cases hf
    exact jq_zret hX hS (by decide) dX8_isSort_15 ⟨rfl, rfl, rfl, rfl⟩
  · have hf := o_f hf c1
    refine lv_iload_n hx hb dX8_isSort_4 rfl (lv_at hl 0 rfl) ?_
    refine lv_bipush (v := 22) hx hb dX8_isSort_5 (by decide) ?_
    refine lv_icmp_gt (tgt := 14) hx hb dX8_isSort_7 (by decide) (fun c2 => ?_) (fun c2 => ?_)
    · have hf := o_t hf c2
      refine lv_iconst (v := 0) hx hb dX8_isSort_14 (by decide) ?_
      cases hf
      exact jq_zret hX hS (by decide) dX8_isSort_15 ⟨rfl, rfl, rfl, rfl⟩
    · have hf := o_f hf c2
      refine lv_iconst (v := 1) hx hb dX8_isSort_10 (by decide) ?_
      refine lv_goto (tgt := 15) hx hb dX8_isSort_11 (by decide) ?_
      cases hf
      exact jq_zret hX hS (by decide) dX8_isSort_15 ⟨rfl, rfl, rfl, rfl⟩
theorem dX8_isAmong_0 : decode cX8_isAmong 0 = .ok (.iload_n 0, 1) := by decide +kernel
theorem dX8_isAmong_1 : decode cX8_isAmong 1 = .ok (.invokestatic 9, 3) := by decide +kernel
theorem dX8_isAmong_4 : decode cX8_isAmong 4 = .ok (.ifCond .eq 16, 3) := by decide +kernel
theorem dX8_isAmong_20 : decode cX8_isAmong 20 = .ok (.iconst 0, 1) := by decide +kernel
theorem dX8_isAmong_21 : decode cX8_isAmong 21 = .ok (.ireturn, 1) := by decide +kernel
theorem dX8_isAmong_7 : decode cX8_isAmong 7 = .ok (.iload_n 1, 1) := by decide +kernel
theorem dX8_isAmong_8 : decode cX8_isAmong 8 = .ok (.iload_n 0, 1) := by decide +kernel
theorem dX8_isAmong_9 : decode cX8_isAmong 9 = .ok (.ishr, 1) := by decide +kernel
theorem dX8_isAmong_10 : decode cX8_isAmong 10 = .ok (.iconst 1, 1) := by decide +kernel
theorem dX8_isAmong_11 : decode cX8_isAmong 11 = .ok (.iand, 1) := by decide +kernel
theorem dX8_isAmong_12 : decode cX8_isAmong 12 = .ok (.iconst 1, 1) := by decide +kernel
theorem dX8_isAmong_13 : decode cX8_isAmong 13 = .ok (.if_icmp .ne 7, 3) := by decide +kernel
theorem dX8_isAmong_16 : decode cX8_isAmong 16 = .ok (.iconst 1, 1) := by decide +kernel
theorem dX8_isAmong_17 : decode cX8_isAmong 17 = .ok (.goto 4, 3) := by decide +kernel
theorem hy_X8_isAmong : yX8_isAmong.cls ≠ "java/lang/invoke/MethodHandle" ∧ yX8_isAmong.cls ≠ "java/lang/invoke/VarHandle" ∧ (parseMethodDescriptor yX8_isAmong.desc).map (fun d => d.parameters.length) = some 2 := ⟨by decide, by decide, by decide +kernel⟩
def f_X8_isAmong (p1 : Int32) (p2 : Int32) : Option (Int32) :=
  o_cP (f_X8_isSort p1) fun x1 =>
  if x1 = 0 then (
  some 0) else (
  if ((p2 >>> (p1 &&& 31)) &&& 1) = 1 then (
  some 1) else (
  some 0))
set_option maxHeartbeats 4000000 in
set_option maxRecDepth 100000 in
theorem c_X8_isAmong {l : Launch} {D : va_G} {Y : Nat → ClassId} {aR : Nat → Nat} {A : Nat → Prop} {p1 : Int32} {p2 : Int32} {r : Int32} (hf : f_X8_isAmong p1 p2 = some r) : jq_P l D Y aR A yX8_isAmong cX8_isAmong 2 (some .boolean) 1 20 [.int p1, .int p2] (some (.int r)) := by
  unfold f_X8_isAmong at hf
  refine jq_enterP (by decide) (Nat.le_of_ble_eq_true rfl) fun p e s m args below meth c ls H locs hX hS hl => ?_
  have hl : lv_has ls 2 [(0, .int p1), (1, .int p2)] := hl
  have hx := hX.1
  have hb := hX.2.1
  have hm := hX.2.2.1
  have ho := hX.2.2.2.1
  have ht := hX.2.2.2.2.1
  have hn := hX.2.2.2.2.2.1.2.1
  refine lv_iload_n hx hb dX8_isAmong_0 rfl (lv_at hl 0 rfl) ?_
  obtain ⟨x1, hq1, hf⟩ := o_cP_e hf
  refine jq_doP hX hS (jq_okS (As := [.int p1]) (rest := []) hx hb hm ho ht qw265 qw266 qw267 qw14 hy_X8_isSort rfl hl.1 (by decide) dX8_isAmong_1) (c_X8_isSort hq1) (Nat.le_of_ble_eq_true rfl) (Nat.le_of_ble_eq_true rfl) (Nat.le_refl _) (Nat.le_refl _) (fun locs hS => ?_)
  refine lv_if_eq (tgt := 20) hx hb dX8_isAmong_4 (by decide) (fun c1 => ?_) (fun c1 => ?_)
  · have hf := o_t hf c1
    refine lv_iconst (v := 0) hx hb dX8_isAmong_20 (by decide) ?_
    cases hf
    exact jq_zret hX hS (by decide) dX8_isAmong_21 ⟨rfl, rfl, rfl, rfl⟩
  · have hf := o_f hf c1
    refine lv_iload_n hx hb dX8_isAmong_7 rfl (lv_at hl 1 rfl) ?_
    refine lv_iload_n hx hb dX8_isAmong_8 rfl (lv_at hl 0 rfl) ?_
    refine lv_ishr hx hb dX8_isAmong_9 ?_
    refine lv_iconst (v := 1) hx hb dX8_isAmong_10 (by decide) ?_
    refine lv_iand hx hb dX8_isAmong_11 ?_
    refine lv_iconst (v := 1) hx hb dX8_isAmong_12 (by decide) ?_
    refine lv_icmp_ne (tgt := 20) hx hb dX8_isAmong_13 (by decide) (fun c2 => ?_) (fun c2 => ?_)
    · have hf := o_f hf c2
      refine lv_iconst (v := 0) hx hb dX8_isAmong_20 (by decide) ?_
      cases hf
      exact jq_zret hX hS (by decide) dX8_isAmong_21 ⟨rfl, rfl, rfl, rfl⟩
    · have hf := o_t hf c2
      refine lv_iconst (v := 1) hx hb dX8_isAmong_16 (by decide) ?_
      refine lv_goto (tgt := 21) hx hb dX8_isAmong_17 (by decide) ?_
      cases hf
      exact jq_zret hX hS (by decide) dX8_isAmong_21 ⟨rfl, rfl, rfl, rfl⟩
theorem dX2_isReckoned_0 : decode cX2_isReckoned 0 = .ok (.iload_n 0, 1) := by decide +kernel
theorem dX2_isReckoned_1 : decode cX2_isReckoned 1 = .ok (.iconst 4, 1) := by decide +kernel
theorem dX2_isReckoned_2 : decode cX2_isReckoned 2 = .ok (.if_icmp .lt 13, 3) := by decide +kernel
theorem dX2_isReckoned_15 : decode cX2_isReckoned 15 = .ok (.iconst 0, 1) := by decide +kernel
theorem dX2_isReckoned_16 : decode cX2_isReckoned 16 = .ok (.ireturn, 1) := by decide +kernel
theorem dX2_isReckoned_5 : decode cX2_isReckoned 5 = .ok (.iload_n 0, 1) := by decide +kernel
theorem dX2_isReckoned_6 : decode cX2_isReckoned 6 = .ok (.bipush 7, 2) := by decide +kernel
theorem dX2_isReckoned_8 : decode cX2_isReckoned 8 = .ok (.if_icmp .gt 7, 3) := by decide +kernel
theorem dX2_isReckoned_11 : decode cX2_isReckoned 11 = .ok (.iconst 1, 1) := by decide +kernel
theorem dX2_isReckoned_12 : decode cX2_isReckoned 12 = .ok (.goto 4, 3) := by decide +kernel
theorem hy_X2_isReckoned : yX2_isReckoned.cls ≠ "java/lang/invoke/MethodHandle" ∧ yX2_isReckoned.cls ≠ "java/lang/invoke/VarHandle" ∧ (parseMethodDescriptor yX2_isReckoned.desc).map (fun d => d.parameters.length) = some 1 := ⟨by decide, by decide, by decide +kernel⟩
def f_X2_isReckoned (p1 : Int32) : Option (Int32) :=
  if p1 < 4 then (
  some 0) else (
  if 7 < p1 then (
  some 0) else (
  some 1))
set_option maxHeartbeats 4000000 in
set_option maxRecDepth 100000 in
theorem c_X2_isReckoned {l : Launch} {D : va_G} {Y : Nat → ClassId} {aR : Nat → Nat} {A : Nat → Prop} {p1 : Int32} {r : Int32} (hf : f_X2_isReckoned p1 = some r) : jq_P l D Y aR A yX2_isReckoned cX2_isReckoned 1 (some .boolean) 0 0 [.int p1] (some (.int r)) := by
  unfold f_X2_isReckoned at hf
  refine jq_enterP (by decide) (Nat.le_of_ble_eq_true rfl) fun p e s m args below meth c ls H locs hX hS hl => ?_
  have hl : lv_has ls 1 [(0, .int p1)] := hl
  have hx := hX.1
  have hb := hX.2.1
  have hm := hX.2.2.1
  have ho := hX.2.2.2.1
  have ht := hX.2.2.2.2.1
  have hn := hX.2.2.2.2.2.1.2.1
  refine lv_iload_n hx hb dX2_isReckoned_0 rfl (lv_at hl 0 rfl) ?_
  refine lv_iconst (v := 4) hx hb dX2_isReckoned_1 (by decide) ?_
  refine lv_icmp_lt (tgt := 15) hx hb dX2_isReckoned_2 (by decide) (fun c1 => ?_) (fun c1 => ?_)
  · have hf := o_t hf c1
    refine lv_iconst (v := 0) hx hb dX2_isReckoned_15 (by decide) ?_
    cases hf
    exact jq_zret hX hS (by decide) dX2_isReckoned_16 ⟨rfl, rfl, rfl, rfl⟩
  · have hf := o_f hf c1
    refine lv_iload_n hx hb dX2_isReckoned_5 rfl (lv_at hl 0 rfl) ?_
    refine lv_bipush (v := 7) hx hb dX2_isReckoned_6 (by decide) ?_
    refine lv_icmp_gt (tgt := 15) hx hb dX2_isReckoned_8 (by decide) (fun c2 => ?_) (fun c2 => ?_)
    · have hf := o_t hf c2
      refine lv_iconst (v := 0) hx hb dX2_isReckoned_15 (by decide) ?_
      cases hf
      exact jq_zret hX hS (by decide) dX2_isReckoned_16 ⟨rfl, rfl, rfl, rfl⟩
    · have hf := o_f hf c2
      refine lv_iconst (v := 1) hx hb dX2_isReckoned_11 (by decide) ?_
      refine lv_goto (tgt := 16) hx hb dX2_isReckoned_12 (by decide) ?_
      cases hf
      exact jq_zret hX hS (by decide) dX2_isReckoned_16 ⟨rfl, rfl, rfl, rfl⟩
theorem dX3_isHeld_0 : decode cX3_isHeld 0 = .ok (.iload_n 0, 1) := by decide +kernel
theorem dX3_isHeld_1 : decode cX3_isHeld 1 = .ok (.iconst (-1), 1) := by decide +kernel
theorem dX3_isHeld_2 : decode cX3_isHeld 2 = .ok (.if_icmp .eq 26, 3) := by decide +kernel
theorem dX3_isHeld_28 : decode cX3_isHeld 28 = .ok (.iconst 1, 1) := by decide +kernel
theorem dX3_isHeld_29 : decode cX3_isHeld 29 = .ok (.goto 4, 3) := by decide +kernel
theorem dX3_isHeld_33 : decode cX3_isHeld 33 = .ok (.ireturn, 1) := by decide +kernel
theorem dX3_isHeld_5 : decode cX3_isHeld 5 = .ok (.iload_n 0, 1) := by decide +kernel
theorem dX3_isHeld_6 : decode cX3_isHeld 6 = .ok (.iconst 1, 1) := by decide +kernel
theorem dX3_isHeld_7 : decode cX3_isHeld 7 = .ok (.if_icmp .lt 9, 3) := by decide +kernel
theorem dX3_isHeld_16 : decode cX3_isHeld 16 = .ok (.iload_n 0, 1) := by decide +kernel
theorem dX3_isHeld_17 : decode cX3_isHeld 17 = .ok (.bipush 20, 2) := by decide +kernel
theorem dX3_isHeld_19 : decode cX3_isHeld 19 = .ok (.if_icmp .lt 13, 3) := by decide +kernel
theorem dX3_isHeld_32 : decode cX3_isHeld 32 = .ok (.iconst 0, 1) := by decide +kernel
theorem dX3_isHeld_22 : decode cX3_isHeld 22 = .ok (.iload_n 0, 1) := by decide +kernel
theorem dX3_isHeld_23 : decode cX3_isHeld 23 = .ok (.bipush 29, 2) := by decide +kernel
theorem dX3_isHeld_25 : decode cX3_isHeld 25 = .ok (.if_icmp .gt 7, 3) := by decide +kernel
theorem dX3_isHeld_10 : decode cX3_isHeld 10 = .ok (.iload_n 0, 1) := by decide +kernel
theorem dX3_isHeld_11 : decode cX3_isHeld 11 = .ok (.bipush 7, 2) := by decide +kernel
theorem dX3_isHeld_13 : decode cX3_isHeld 13 = .ok (.if_icmp .lt 15, 3) := by decide +kernel
theorem hy_X3_isHeld : yX3_isHeld.cls ≠ "java/lang/invoke/MethodHandle" ∧ yX3_isHeld.cls ≠ "java/lang/invoke/VarHandle" ∧ (parseMethodDescriptor yX3_isHeld.desc).map (fun d => d.parameters.length) = some 1 := ⟨by decide, by decide, by decide +kernel⟩
def f_X3_isHeld (p1 : Int32) : Option (Int32) :=
  if p1 = (-1) then (
  some 1) else (
  if p1 < 1 then (
  if p1 < 20 then (
  some 0) else (
  if 29 < p1 then (
  some 0) else (
  some 1))) else (
  if p1 < 7 then (
  some 1) else (
  if p1 < 20 then (
  some 0) else (
  if 29 < p1 then (
  some 0) else (
  some 1)))))
set_option maxHeartbeats 4000000 in
set_option maxRecDepth 100000 in
theorem c_X3_isHeld {l : Launch} {D : va_G} {Y : Nat → ClassId} {aR : Nat → Nat} {A : Nat → Prop} {p1 : Int32} {r : Int32} (hf : f_X3_isHeld p1 = some r) : jq_P l D Y aR A yX3_isHeld cX3_isHeld 1 (some .boolean) 0 0 [.int p1] (some (.int r)) := by
  unfold f_X3_isHeld at hf
  refine jq_enterP (by decide) (Nat.le_of_ble_eq_true rfl) fun p e s m args below meth c ls H locs hX hS hl => ?_
  have hl : lv_has ls 1 [(0, .int p1)] := hl
  have hx := hX.1
  have hb := hX.2.1
  have hm := hX.2.2.1
  have ho := hX.2.2.2.1
  have ht := hX.2.2.2.2.1
  have hn := hX.2.2.2.2.2.1.2.1
  refine lv_iload_n hx hb dX3_isHeld_0 rfl (lv_at hl 0 rfl) ?_
  refine lv_iconst (v := (-1)) hx hb dX3_isHeld_1 (by decide) ?_
  refine lv_icmp_eq (tgt := 28) hx hb dX3_isHeld_2 (by decide) (fun c1 => ?_) (fun c1 => ?_)
  · have hf := o_t hf c1
    refine lv_iconst (v := 1) hx hb dX3_isHeld_28 (by decide) ?_
    refine lv_goto (tgt := 33) hx hb dX3_isHeld_29 (by decide) ?_
    cases hf
    exact jq_zret hX hS (by decide) dX3_isHeld_33 ⟨rfl, rfl, rfl, rfl⟩
  · have hf := o_f hf c1
    refine lv_iload_n hx hb dX3_isHeld_5 rfl (lv_at hl 0 rfl) ?_
    refine lv_iconst (v := 1) hx hb dX3_isHeld_6 (by decide) ?_
    refine lv_icmp_lt (tgt := 16) hx hb dX3_isHeld_7 (by decide) (fun c2 => ?_) (fun c2 => ?_)
    · have hf := o_t hf c2
      refine lv_iload_n hx hb dX3_isHeld_16 rfl (lv_at hl 0 rfl) ?_
      refine lv_bipush (v := 20) hx hb dX3_isHeld_17 (by decide) ?_
      refine lv_icmp_lt (tgt := 32) hx hb dX3_isHeld_19 (by decide) (fun c3 => ?_) (fun c3 => ?_)
      · have hf := o_t hf c3
        refine lv_iconst (v := 0) hx hb dX3_isHeld_32 (by decide) ?_
        cases hf
        exact jq_zret hX hS (by decide) dX3_isHeld_33 ⟨rfl, rfl, rfl, rfl⟩
      · have hf := o_f hf c3
        refine lv_iload_n hx hb dX3_isHeld_22 rfl (lv_at hl 0 rfl) ?_
        refine lv_bipush (v := 29) hx hb dX3_isHeld_23 (by decide) ?_
        refine lv_icmp_gt (tgt := 32) hx hb dX3_isHeld_25 (by decide) (fun c4 => ?_) (fun c4 => ?_)
        · have hf := o_t hf c4
          refine lv_iconst (v := 0) hx hb dX3_isHeld_32 (by decide) ?_
          cases hf
          exact jq_zret hX hS (by decide) dX3_isHeld_33 ⟨rfl, rfl, rfl, rfl⟩
        · have hf := o_f hf c4
          refine lv_iconst (v := 1) hx hb dX3_isHeld_28 (by decide) ?_
          refine lv_goto (tgt := 33) hx hb dX3_isHeld_29 (by decide) ?_
          cases hf
          exact jq_zret hX hS (by decide) dX3_isHeld_33 ⟨rfl, rfl, rfl, rfl⟩
    · have hf := o_f hf c2
      refine lv_iload_n hx hb dX3_isHeld_10 rfl (lv_at hl 0 rfl) ?_
      refine lv_bipush (v := 7) hx hb dX3_isHeld_11 (by decide) ?_
      refine lv_icmp_lt (tgt := 28) hx hb dX3_isHeld_13 (by decide) (fun c5 => ?_) (fun c5 => ?_)
      · have hf := o_t hf c5
        refine lv_iconst (v := 1) hx hb dX3_isHeld_28 (by decide) ?_
        refine lv_goto (tgt := 33) hx hb dX3_isHeld_29 (by decide) ?_
        cases hf
        exact jq_zret hX hS (by decide) dX3_isHeld_33 ⟨rfl, rfl, rfl, rfl⟩
      · have hf := o_f hf c5
        refine lv_iload_n hx hb dX3_isHeld_16 rfl (lv_at hl 0 rfl) ?_
        refine lv_bipush (v := 20) hx hb dX3_isHeld_17 (by decide) ?_
        refine lv_icmp_lt (tgt := 32) hx hb dX3_isHeld_19 (by decide) (fun c6 => ?_) (fun c6 => ?_)
        · have hf := o_t hf c6
          refine lv_iconst (v := 0) hx hb dX3_isHeld_32 (by decide) ?_
          cases hf
          exact jq_zret hX hS (by decide) dX3_isHeld_33 ⟨rfl, rfl, rfl, rfl⟩
        · have hf := o_f hf c6
          refine lv_iload_n hx hb dX3_isHeld_22 rfl (lv_at hl 0 rfl) ?_
          refine lv_bipush (v := 29) hx hb dX3_isHeld_23 (by decide) ?_
          refine lv_icmp_gt (tgt := 32) hx hb dX3_isHeld_25 (by decide) (fun c7 => ?_) (fun c7 => ?_)
          · have hf := o_t hf c7
            refine lv_iconst (v := 0) hx hb dX3_isHeld_32 (by decide) ?_
            cases hf
            exact jq_zret hX hS (by decide) dX3_isHeld_33 ⟨rfl, rfl, rfl, rfl⟩
          · have hf := o_f hf c7
            refine lv_iconst (v := 1) hx hb dX3_isHeld_28 (by decide) ?_
            refine lv_goto (tgt := 33) hx hb dX3_isHeld_29 (by decide) ?_
            cases hf
            exact jq_zret hX hS (by decide) dX3_isHeld_33 ⟨rfl, rfl, rfl, rfl⟩
theorem dX2_isRow_0 : decode cX2_isRow 0 = .ok (.iload_n 0, 1) := by decide +kernel
theorem dX2_isRow_1 : decode cX2_isRow 1 = .ok (.bipush 8, 2) := by decide +kernel
theorem dX2_isRow_3 : decode cX2_isRow 3 = .ok (.if_icmp .lt 13, 3) := by decide +kernel
theorem dX2_isRow_16 : decode cX2_isRow 16 = .ok (.iconst 0, 1) := by decide +kernel
theorem dX2_isRow_17 : decode cX2_isRow 17 = .ok (.ireturn, 1) := by decide +kernel
theorem dX2_isRow_6 : decode cX2_isRow 6 = .ok (.iload_n 0, 1) := by decide +kernel
theorem dX2_isRow_7 : decode cX2_isRow 7 = .ok (.bipush 16, 2) := by decide +kernel
theorem dX2_isRow_9 : decode cX2_isRow 9 = .ok (.if_icmp .gt 7, 3) := by decide +kernel
theorem dX2_isRow_12 : decode cX2_isRow 12 = .ok (.iconst 1, 1) := by decide +kernel
theorem dX2_isRow_13 : decode cX2_isRow 13 = .ok (.goto 4, 3) := by decide +kernel
theorem hy_X2_isRow : yX2_isRow.cls ≠ "java/lang/invoke/MethodHandle" ∧ yX2_isRow.cls ≠ "java/lang/invoke/VarHandle" ∧ (parseMethodDescriptor yX2_isRow.desc).map (fun d => d.parameters.length) = some 1 := ⟨by decide, by decide, by decide +kernel⟩
def f_X2_isRow (p1 : Int32) : Option (Int32) :=
  if p1 < 8 then (
  some 0) else (
  if 16 < p1 then (
  some 0) else (
  some 1))
set_option maxHeartbeats 4000000 in
set_option maxRecDepth 100000 in
theorem c_X2_isRow {l : Launch} {D : va_G} {Y : Nat → ClassId} {aR : Nat → Nat} {A : Nat → Prop} {p1 : Int32} {r : Int32} (hf : f_X2_isRow p1 = some r) : jq_P l D Y aR A yX2_isRow cX2_isRow 1 (some .boolean) 0 0 [.int p1] (some (.int r)) := by
  unfold f_X2_isRow at hf
  refine jq_enterP (by decide) (Nat.le_of_ble_eq_true rfl) fun p e s m args below meth c ls H locs hX hS hl => ?_
  have hl : lv_has ls 1 [(0, .int p1)] := hl
  have hx := hX.1
  have hb := hX.2.1
  have hm := hX.2.2.1
  have ho := hX.2.2.2.1
  have ht := hX.2.2.2.2.1
  have hn := hX.2.2.2.2.2.1.2.1
  refine lv_iload_n hx hb dX2_isRow_0 rfl (lv_at hl 0 rfl) ?_
  refine lv_bipush (v := 8) hx hb dX2_isRow_1 (by decide) ?_
  refine lv_icmp_lt (tgt := 16) hx hb dX2_isRow_3 (by decide) (fun c1 => ?_) (fun c1 => ?_)
  · have hf := o_t hf c1
    refine lv_iconst (v := 0) hx hb dX2_isRow_16 (by decide) ?_
    cases hf
    exact jq_zret hX hS (by decide) dX2_isRow_17 ⟨rfl, rfl, rfl, rfl⟩
  · have hf := o_f hf c1
    refine lv_iload_n hx hb dX2_isRow_6 rfl (lv_at hl 0 rfl) ?_
    refine lv_bipush (v := 16) hx hb dX2_isRow_7 (by decide) ?_
    refine lv_icmp_gt (tgt := 16) hx hb dX2_isRow_9 (by decide) (fun c2 => ?_) (fun c2 => ?_)
    · have hf := o_t hf c2
      refine lv_iconst (v := 0) hx hb dX2_isRow_16 (by decide) ?_
      cases hf
      exact jq_zret hX hS (by decide) dX2_isRow_17 ⟨rfl, rfl, rfl, rfl⟩
    · have hf := o_f hf c2
      refine lv_iconst (v := 1) hx hb dX2_isRow_12 (by decide) ?_
      refine lv_goto (tgt := 17) hx hb dX2_isRow_13 (by decide) ?_
      cases hf
      exact jq_zret hX hS (by decide) dX2_isRow_17 ⟨rfl, rfl, rfl, rfl⟩
theorem dX2_goes_0 : decode cX2_goes 0 = .ok (.iload_n 0, 1) := by decide +kernel
theorem dX2_goes_1 : decode cX2_goes 1 = .ok (.iload_n 1, 1) := by decide +kernel
theorem dX2_goes_2 : decode cX2_goes 2 = .ok (.if_icmp .ne 5, 3) := by decide +kernel
theorem dX2_goes_7 : decode cX2_goes 7 = .ok (.iload_n 0, 1) := by decide +kernel
theorem dX2_goes_8 : decode cX2_goes 8 = .ok (.invokestatic 11, 3) := by decide +kernel
theorem dX2_goes_11 : decode cX2_goes 11 = .ok (.ifCond .eq 15, 3) := by decide +kernel
theorem dX2_goes_26 : decode cX2_goes 26 = .ok (.iload_n 0, 1) := by decide +kernel
theorem dX2_goes_27 : decode cX2_goes 27 = .ok (.iconst 1, 1) := by decide +kernel
theorem dX2_goes_28 : decode cX2_goes 28 = .ok (.if_icmp .lt 23, 3) := by decide +kernel
theorem dX2_goes_51 : decode cX2_goes 51 = .ok (.iconst 0, 1) := by decide +kernel
theorem dX2_goes_52 : decode cX2_goes 52 = .ok (.ireturn, 1) := by decide +kernel
theorem dX2_goes_31 : decode cX2_goes 31 = .ok (.iload_n 0, 1) := by decide +kernel
theorem dX2_goes_32 : decode cX2_goes 32 = .ok (.iload_n 1, 1) := by decide +kernel
theorem dX2_goes_33 : decode cX2_goes 33 = .ok (.if_icmp .ge 18, 3) := by decide +kernel
theorem dX2_goes_36 : decode cX2_goes 36 = .ok (.iload_n 1, 1) := by decide +kernel
theorem dX2_goes_37 : decode cX2_goes 37 = .ok (.bipush 7, 2) := by decide +kernel
theorem dX2_goes_39 : decode cX2_goes 39 = .ok (.if_icmp .gt 12, 3) := by decide +kernel
theorem dX2_goes_42 : decode cX2_goes 42 = .ok (.iload_n 1, 1) := by decide +kernel
theorem dX2_goes_43 : decode cX2_goes 43 = .ok (.iconst 3, 1) := by decide +kernel
theorem dX2_goes_44 : decode cX2_goes 44 = .ok (.if_icmp .eq 7, 3) := by decide +kernel
theorem dX2_goes_47 : decode cX2_goes 47 = .ok (.iconst 1, 1) := by decide +kernel
theorem dX2_goes_48 : decode cX2_goes 48 = .ok (.goto 4, 3) := by decide +kernel
theorem dX2_goes_14 : decode cX2_goes 14 = .ok (.iload_n 1, 1) := by decide +kernel
theorem dX2_goes_15 : decode cX2_goes 15 = .ok (.bipush 16, 2) := by decide +kernel
theorem dX2_goes_17 : decode cX2_goes 17 = .ok (.if_icmp .ne 7, 3) := by decide +kernel
theorem dX2_goes_24 : decode cX2_goes 24 = .ok (.iconst 0, 1) := by decide +kernel
theorem dX2_goes_25 : decode cX2_goes 25 = .ok (.ireturn, 1) := by decide +kernel
theorem dX2_goes_20 : decode cX2_goes 20 = .ok (.iconst 1, 1) := by decide +kernel
theorem dX2_goes_21 : decode cX2_goes 21 = .ok (.goto 4, 3) := by decide +kernel
theorem dX2_goes_5 : decode cX2_goes 5 = .ok (.iconst 1, 1) := by decide +kernel
theorem dX2_goes_6 : decode cX2_goes 6 = .ok (.ireturn, 1) := by decide +kernel
theorem hy_X2_goes : yX2_goes.cls ≠ "java/lang/invoke/MethodHandle" ∧ yX2_goes.cls ≠ "java/lang/invoke/VarHandle" ∧ (parseMethodDescriptor yX2_goes.desc).map (fun d => d.parameters.length) = some 2 := ⟨by decide, by decide, by decide +kernel⟩
def f_X2_goes (p1 : Int32) (p2 : Int32) : Option (Int32) :=
  if p1 = p2 then (
  some 1) else (
  o_cP (f_X2_isRow p1) fun x1 =>
  if x1 = 0 then (
  if p1 < 1 then (
  some 0) else (
  if p2 ≤ p1 then (
  some 0) else (
  if 7 < p2 then (
  some 0) else (
  if p2 = 3 then (
  some 0) else (
  some 1))))) else (
  if p2 = 16 then (
  some 1) else (
  some 0)))
set_option maxHeartbeats 4000000 in
set_option maxRecDepth 100000 in
theorem c_X2_goes {l : Launch} {D : va_G} {Y : Nat → ClassId} {aR : Nat → Nat} {A : Nat → Prop} {p1 : Int32} {p2 : Int32} {r : Int32} (hf : f_X2_goes p1 p2 = some r) : jq_P l D Y aR A yX2_goes cX2_goes 2 (some .boolean) 1 20 [.int p1, .int p2] (some (.int r)) := by
  unfold f_X2_goes at hf
  refine jq_enterP (by decide) (Nat.le_of_ble_eq_true rfl) fun p e s m args below meth c ls H locs hX hS hl => ?_
  have hl : lv_has ls 2 [(0, .int p1), (1, .int p2)] := hl
  have hx := hX.1
  have hb := hX.2.1
  have hm := hX.2.2.1
  have ho := hX.2.2.2.1
  have ht := hX.2.2.2.2.1
  have hn := hX.2.2.2.2.2.1.2.1
  refine lv_iload_n hx hb dX2_goes_0 rfl (lv_at hl 0 rfl) ?_
  refine lv_iload_n hx hb dX2_goes_1 rfl (lv_at hl 1 rfl) ?_
  refine lv_icmp_ne (tgt := 7) hx hb dX2_goes_2 (by decide) (fun c1 => ?_) (fun c1 => ?_)
  · have hf := o_f hf c1
    refine lv_iload_n hx hb dX2_goes_7 rfl (lv_at hl 0 rfl) ?_
    obtain ⟨x1, hq1, hf⟩ := o_cP_e hf
    refine jq_doP hX hS (jq_okS (As := [.int p1]) (rest := []) hx hb hm ho ht qw400 qw358 qw359 qw8 hy_X2_isRow rfl hl.1 (by decide) dX2_goes_8) (c_X2_isRow hq1) (Nat.le_of_ble_eq_true rfl) (Nat.le_of_ble_eq_true rfl) (Nat.le_refl _) (Nat.le_refl _) (fun locs hS => ?_)
    refine lv_if_eq (tgt := 26) hx hb dX2_goes_11 (by decide) (fun c2 => ?_) (fun c2 => ?_)
    · have hf := o_t hf c2
      refine lv_iload_n hx hb dX2_goes_26 rfl (lv_at hl 0 rfl) ?_
      refine lv_iconst (v := 1) hx hb dX2_goes_27 (by decide) ?_
      refine lv_icmp_lt (tgt := 51) hx hb dX2_goes_28 (by decide) (fun c3 => ?_) (fun c3 => ?_)
      · have hf := o_t hf c3
        refine lv_iconst (v := 0) hx hb dX2_goes_51 (by decide) ?_
        cases hf
        exact jq_zret hX hS (by decide) dX2_goes_52 ⟨rfl, rfl, rfl, rfl⟩
      · have hf := o_f hf c3
        refine lv_iload_n hx hb dX2_goes_31 rfl (lv_at hl 0 rfl) ?_
        refine lv_iload_n hx hb dX2_goes_32 rfl (lv_at hl 1 rfl) ?_
        refine lv_icmp_ge (tgt := 51) hx hb dX2_goes_33 (by decide) (fun c4 => ?_) (fun c4 => ?_)
        · have hf := o_t hf c4
          refine lv_iconst (v := 0) hx hb dX2_goes_51 (by decide) ?_
          cases hf
          exact jq_zret hX hS (by decide) dX2_goes_52 ⟨rfl, rfl, rfl, rfl⟩
        · have hf := o_f hf c4
          refine lv_iload_n hx hb dX2_goes_36 rfl (lv_at hl 1 rfl) ?_
          refine lv_bipush (v := 7) hx hb dX2_goes_37 (by decide) ?_
          refine lv_icmp_gt (tgt := 51) hx hb dX2_goes_39 (by decide) (fun c5 => ?_) (fun c5 => ?_)
          · have hf := o_t hf c5
            refine lv_iconst (v := 0) hx hb dX2_goes_51 (by decide) ?_
            cases hf
            exact jq_zret hX hS (by decide) dX2_goes_52 ⟨rfl, rfl, rfl, rfl⟩
          · have hf := o_f hf c5
            refine lv_iload_n hx hb dX2_goes_42 rfl (lv_at hl 1 rfl) ?_
            refine lv_iconst (v := 3) hx hb dX2_goes_43 (by decide) ?_
            refine lv_icmp_eq (tgt := 51) hx hb dX2_goes_44 (by decide) (fun c6 => ?_) (fun c6 => ?_)
            · have hf := o_t hf c6
              refine lv_iconst (v := 0) hx hb dX2_goes_51 (by decide) ?_
              cases hf
              exact jq_zret hX hS (by decide) dX2_goes_52 ⟨rfl, rfl, rfl, rfl⟩
            · have hf := o_f hf c6
              refine lv_iconst (v := 1) hx hb dX2_goes_47 (by decide) ?_
              refine lv_goto (tgt := 52) hx hb dX2_goes_48 (by decide) ?_
              cases hf
              exact jq_zret hX hS (by decide) dX2_goes_52 ⟨rfl, rfl, rfl, rfl⟩
    · have hf := o_f hf c2
      refine lv_iload_n hx hb dX2_goes_14 rfl (lv_at hl 1 rfl) ?_
      refine lv_bipush (v := 16) hx hb dX2_goes_15 (by decide) ?_
      refine lv_icmp_ne (tgt := 24) hx hb dX2_goes_17 (by decide) (fun c7 => ?_) (fun c7 => ?_)
      · have hf := o_f hf c7
        refine lv_iconst (v := 0) hx hb dX2_goes_24 (by decide) ?_
        cases hf
        exact jq_zret hX hS (by decide) dX2_goes_25 ⟨rfl, rfl, rfl, rfl⟩
      · have hf := o_t hf c7
        refine lv_iconst (v := 1) hx hb dX2_goes_20 (by decide) ?_
        refine lv_goto (tgt := 25) hx hb dX2_goes_21 (by decide) ?_
        cases hf
        exact jq_zret hX hS (by decide) dX2_goes_25 ⟨rfl, rfl, rfl, rfl⟩
  · have hf := o_t hf c1
    refine lv_iconst (v := 1) hx hb dX2_goes_5 (by decide) ?_
    cases hf
    exact jq_zret hX hS (by decide) dX2_goes_6 ⟨rfl, rfl, rfl, rfl⟩
theorem dX7_slot_0 : decode cX7_slot 0 = .ok (.iload_n 0, 1) := by decide +kernel
theorem dX7_slot_1 : decode cX7_slot 1 = .ok (.ifCond .lt 16, 3) := by decide +kernel
theorem dX7_slot_17 : decode cX7_slot 17 = .ok (.iconst 0, 1) := by decide +kernel
theorem dX7_slot_18 : decode cX7_slot 18 = .ok (.istore_n 2, 1) := by decide +kernel
theorem dX7_slot_19 : decode cX7_slot 19 = .ok (.iload_n 2, 1) := by decide +kernel
theorem dX7_slot_20 : decode cX7_slot 20 = .ok (.ifCond .eq 11, 3) := by decide +kernel
theorem dX7_slot_31 : decode cX7_slot 31 = .ok (.iconst (-1), 1) := by decide +kernel
theorem dX7_slot_32 : decode cX7_slot 32 = .ok (.ireturn, 1) := by decide +kernel
theorem dX7_slot_4 : decode cX7_slot 4 = .ok (.iload_n 1, 1) := by decide +kernel
theorem dX7_slot_5 : decode cX7_slot 5 = .ok (.ifCond .lt 12, 3) := by decide +kernel
theorem dX7_slot_8 : decode cX7_slot 8 = .ok (.iload_n 1, 1) := by decide +kernel
theorem dX7_slot_9 : decode cX7_slot 9 = .ok (.iconst 4, 1) := by decide +kernel
theorem dX7_slot_10 : decode cX7_slot 10 = .ok (.if_icmp .ge 7, 3) := by decide +kernel
theorem dX7_slot_13 : decode cX7_slot 13 = .ok (.iconst 1, 1) := by decide +kernel
theorem dX7_slot_14 : decode cX7_slot 14 = .ok (.goto 4, 3) := by decide +kernel
theorem dX7_slot_23 : decode cX7_slot 23 = .ok (.iload_n 0, 1) := by decide +kernel
theorem dX7_slot_24 : decode cX7_slot 24 = .ok (.iconst 4, 1) := by decide +kernel
theorem dX7_slot_25 : decode cX7_slot 25 = .ok (.imul, 1) := by decide +kernel
theorem dX7_slot_26 : decode cX7_slot 26 = .ok (.iload_n 1, 1) := by decide +kernel
theorem dX7_slot_27 : decode cX7_slot 27 = .ok (.iadd, 1) := by decide +kernel
theorem dX7_slot_28 : decode cX7_slot 28 = .ok (.goto 4, 3) := by decide +kernel
theorem hy_X7_slot : yX7_slot.cls ≠ "java/lang/invoke/MethodHandle" ∧ yX7_slot.cls ≠ "java/lang/invoke/VarHandle" ∧ (parseMethodDescriptor yX7_slot.desc).map (fun d => d.parameters.length) = some 2 := ⟨by decide, by decide, by decide +kernel⟩
def f_X7_slot (p1 : Int32) (p2 : Int32) : Option (Int32) :=
  if p1 < 0 then (
  some (-1)) else (
  if p2 < 0 then (
  some (-1)) else (
  if 4 ≤ p2 then (
  some (-1)) else (
  some ((p1 * 4) + p2))))
set_option maxHeartbeats 4000000 in
set_option maxRecDepth 100000 in
theorem c_X7_slot {l : Launch} {D : va_G} {Y : Nat → ClassId} {aR : Nat → Nat} {A : Nat → Prop} {p1 : Int32} {p2 : Int32} {r : Int32} (hf : f_X7_slot p1 p2 = some r) : jq_P l D Y aR A yX7_slot cX7_slot 3 (some .int) 0 0 [.int p1, .int p2] (some (.int r)) := by
  unfold f_X7_slot at hf
  refine jq_enterP (by decide) (Nat.le_of_ble_eq_true rfl) fun p e s m args below meth c ls H locs hX hS hl => ?_
  have hl : lv_has ls 3 [(0, .int p1), (1, .int p2)] := hl
  have hx := hX.1
  have hb := hX.2.1
  have hm := hX.2.2.1
  have ho := hX.2.2.2.1
  have ht := hX.2.2.2.2.1
  have hn := hX.2.2.2.2.2.1.2.1
  refine lv_iload_n hx hb dX7_slot_0 rfl (lv_at hl 0 rfl) ?_
  refine lv_if_lt (tgt := 17) hx hb dX7_slot_1 (by decide) (fun c1 => ?_) (fun c1 => ?_)
  · have hf := o_t hf c1
    refine lv_iconst (v := 0) hx hb dX7_slot_17 (by decide) ?_
    refine lv_istore_n (lv' := [(2, .int 0), (0, .int p1), (1, .int p2)]) hx hb dX7_slot_18 rfl hl (by decide) rfl (fun ls hl => ?_)
    refine lv_iload_n hx hb dX7_slot_19 rfl (lv_at hl 0 rfl) ?_
    refine lv_if_eq (tgt := 31) hx hb dX7_slot_20 (by decide) (fun _ => ?_) (fun z => absurd (by decide) z)
    refine lv_iconst (v := (-1)) hx hb dX7_slot_31 (by decide) ?_
    cases hf
    exact jq_iret hX hS dX7_slot_32 ⟨rfl, rfl, rfl, rfl⟩
  · have hf := o_f hf c1
    refine lv_iload_n hx hb dX7_slot_4 rfl (lv_at hl 1 rfl) ?_
    refine lv_if_lt (tgt := 17) hx hb dX7_slot_5 (by decide) (fun c2 => ?_) (fun c2 => ?_)
    · have hf := o_t hf c2
      refine lv_iconst (v := 0) hx hb dX7_slot_17 (by decide) ?_
      refine lv_istore_n (lv' := [(2, .int 0), (0, .int p1), (1, .int p2)]) hx hb dX7_slot_18 rfl hl (by decide) rfl (fun ls hl => ?_)
      refine lv_iload_n hx hb dX7_slot_19 rfl (lv_at hl 0 rfl) ?_
      refine lv_if_eq (tgt := 31) hx hb dX7_slot_20 (by decide) (fun _ => ?_) (fun z => absurd (by decide) z)
      refine lv_iconst (v := (-1)) hx hb dX7_slot_31 (by decide) ?_
      cases hf
      exact jq_iret hX hS dX7_slot_32 ⟨rfl, rfl, rfl, rfl⟩
    · have hf := o_f hf c2
      refine lv_iload_n hx hb dX7_slot_8 rfl (lv_at hl 1 rfl) ?_
      refine lv_iconst (v := 4) hx hb dX7_slot_9 (by decide) ?_
      refine lv_icmp_ge (tgt := 17) hx hb dX7_slot_10 (by decide) (fun c3 => ?_) (fun c3 => ?_)
      · have hf := o_t hf c3
        refine lv_iconst (v := 0) hx hb dX7_slot_17 (by decide) ?_
        refine lv_istore_n (lv' := [(2, .int 0), (0, .int p1), (1, .int p2)]) hx hb dX7_slot_18 rfl hl (by decide) rfl (fun ls hl => ?_)
        refine lv_iload_n hx hb dX7_slot_19 rfl (lv_at hl 0 rfl) ?_
        refine lv_if_eq (tgt := 31) hx hb dX7_slot_20 (by decide) (fun _ => ?_) (fun z => absurd (by decide) z)
        refine lv_iconst (v := (-1)) hx hb dX7_slot_31 (by decide) ?_
        cases hf
        exact jq_iret hX hS dX7_slot_32 ⟨rfl, rfl, rfl, rfl⟩
      · have hf := o_f hf c3
        refine lv_iconst (v := 1) hx hb dX7_slot_13 (by decide) ?_
        refine lv_goto (tgt := 18) hx hb dX7_slot_14 (by decide) ?_
        refine lv_istore_n (lv' := [(2, .int 1), (0, .int p1), (1, .int p2)]) hx hb dX7_slot_18 rfl hl (by decide) rfl (fun ls hl => ?_)
        refine lv_iload_n hx hb dX7_slot_19 rfl (lv_at hl 0 rfl) ?_
        refine lv_if_eq (tgt := 31) hx hb dX7_slot_20 (by decide) (fun z => absurd z (by decide)) (fun _ => ?_)
        refine lv_iload_n hx hb dX7_slot_23 rfl (lv_at hl 1 rfl) ?_
        refine lv_iconst (v := 4) hx hb dX7_slot_24 (by decide) ?_
        refine lv_imul hx hb dX7_slot_25 ?_
        refine lv_iload_n hx hb dX7_slot_26 rfl (lv_at hl 2 rfl) ?_
        refine lv_iadd hx hb dX7_slot_27 ?_
        refine lv_goto (tgt := 32) hx hb dX7_slot_28 (by decide) ?_
        cases hf
        exact jq_iret hX hS dX7_slot_32 ⟨rfl, rfl, rfl, rfl⟩
theorem dX2_nothing_0 : decode cX2_nothing 0 = .ok (.iload_n 0, 1) := by decide +kernel
theorem dX2_nothing_1 : decode cX2_nothing 1 = .ok (.invokestatic 11, 3) := by decide +kernel
theorem dX2_nothing_4 : decode cX2_nothing 4 = .ok (.ifCond .eq 9, 3) := by decide +kernel
theorem dX2_nothing_13 : decode cX2_nothing 13 = .ok (.lconst 0, 1) := by decide +kernel
theorem dX2_nothing_14 : decode cX2_nothing 14 = .ok (.lreturn, 1) := by decide +kernel
theorem dX2_nothing_7 : decode cX2_nothing 7 = .ok (.ldc2_w 34, 3) := by decide +kernel
theorem dX2_nothing_10 : decode cX2_nothing 10 = .ok (.goto 4, 3) := by decide +kernel
theorem hy_X2_nothing : yX2_nothing.cls ≠ "java/lang/invoke/MethodHandle" ∧ yX2_nothing.cls ≠ "java/lang/invoke/VarHandle" ∧ (parseMethodDescriptor yX2_nothing.desc).map (fun d => d.parameters.length) = some 1 := ⟨by decide, by decide, by decide +kernel⟩
def f_X2_nothing (p1 : Int32) : Option (Int64) :=
  o_cP (f_X2_isRow p1) fun x1 =>
  if x1 = 0 then (
  some 0) else (
  some (-1))
set_option maxHeartbeats 4000000 in
set_option maxRecDepth 100000 in
theorem c_X2_nothing {l : Launch} {D : va_G} {Y : Nat → ClassId} {aR : Nat → Nat} {A : Nat → Prop} {p1 : Int32} {r : Int64} (hf : f_X2_nothing p1 = some r) : jq_P l D Y aR A yX2_nothing cX2_nothing 1 (some .long) 1 20 [.int p1] (some (.long r)) := by
  unfold f_X2_nothing at hf
  refine jq_enterP (by decide) (Nat.le_of_ble_eq_true rfl) fun p e s m args below meth c ls H locs hX hS hl => ?_
  have hl : lv_has ls 1 [(0, .int p1)] := hl
  have hx := hX.1
  have hb := hX.2.1
  have hm := hX.2.2.1
  have ho := hX.2.2.2.1
  have ht := hX.2.2.2.2.1
  have hn := hX.2.2.2.2.2.1.2.1
  refine lv_iload_n hx hb dX2_nothing_0 rfl (lv_at hl 0 rfl) ?_
  obtain ⟨x1, hq1, hf⟩ := o_cP_e hf
  refine jq_doP hX hS (jq_okS (As := [.int p1]) (rest := []) hx hb hm ho ht qw400 qw358 qw359 qw8 hy_X2_isRow rfl hl.1 (by decide) dX2_nothing_1) (c_X2_isRow hq1) (Nat.le_of_ble_eq_true rfl) (Nat.le_of_ble_eq_true rfl) (Nat.le_refl _) (Nat.le_refl _) (fun locs hS => ?_)
  refine lv_if_eq (tgt := 13) hx hb dX2_nothing_4 (by decide) (fun c1 => ?_) (fun c1 => ?_)
  · have hf := o_t hf c1
    refine lv_lconst (v := 0) hx hb dX2_nothing_13 (by decide) ?_
    cases hf
    exact jq_lret hX hS dX2_nothing_14 ⟨rfl, rfl, rfl, rfl⟩
  · have hf := o_f hf c1
    refine lv_ldc2 (v := (-1)) hx hb ho (ht _ qw628) dX2_nothing_7 ?_
    refine lv_goto (tgt := 14) hx hb dX2_nothing_10 (by decide) ?_
    cases hf
    exact jq_lret hX hS dX2_nothing_14 ⟨rfl, rfl, rfl, rfl⟩
end
