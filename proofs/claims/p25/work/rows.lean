section
-- ===== PART A: goes FIRST, ahead of the names: the tables' words, and 'selects' of the private methods out of them =====
/-- a private method of a class that the tables say can be made, by its rows of tables_1 -/
def lw_okq (q : MethodName × Nat) : Prop := (q.1.cls ≠ "java/lang/invoke/MethodHandle" ∧ q.1.cls ≠ "java/lang/invoke/VarHandle") ∧ Cond.instantiable q.1.cls q.2 ∈ tables_1 ∧ Cond.privateMethod q.1 ∈ tables_1 ∧ Cond.instanceMethod q.1 ∈ tables_1
theorem lw_p0 : lw_okq (⟨"java/lang/Throwable", "fillInStackTrace", "(I)Ljava/lang/Throwable;"⟩, 6) := ⟨⟨by decide +kernel, by decide +kernel⟩, List.mem_of_getElem? (i := 237) (by decide +kernel), List.mem_of_getElem? (i := 235) (by decide +kernel), List.mem_of_getElem? (i := 236) (by decide +kernel)⟩
theorem lw_p1 : lw_okq (⟨"Flapline$Board", "begin", "(I)V"⟩, 6) := ⟨⟨by decide +kernel, by decide +kernel⟩, List.mem_of_getElem? (i := 25) (by decide +kernel), List.mem_of_getElem? (i := 267) (by decide +kernel), List.mem_of_getElem? (i := 268) (by decide +kernel)⟩
theorem lw_p2 : lw_okq (⟨"Flapline$Book", "addLetter", "(II)I"⟩, 7) := ⟨⟨by decide +kernel, by decide +kernel⟩, List.mem_of_getElem? (i := 57) (by decide +kernel), List.mem_of_getElem? (i := 301) (by decide +kernel), List.mem_of_getElem? (i := 302) (by decide +kernel)⟩
theorem lw_p3 : lw_okq (⟨"Flapline", "needDot", "(II)V"⟩, 9) := ⟨⟨by decide +kernel, by decide +kernel⟩, List.mem_of_getElem? (i := 17) (by decide +kernel), List.mem_of_getElem? (i := 312) (by decide +kernel), List.mem_of_getElem? (i := 313) (by decide +kernel)⟩
theorem lw_p4 : lw_okq (⟨"Flapline", "needColumn", "(I)V"⟩, 9) := ⟨⟨by decide +kernel, by decide +kernel⟩, List.mem_of_getElem? (i := 17) (by decide +kernel), List.mem_of_getElem? (i := 316) (by decide +kernel), List.mem_of_getElem? (i := 317) (by decide +kernel)⟩
theorem lw_p5 : lw_okq (⟨"Flapline$Board", "faceOf", "(II)I"⟩, 6) := ⟨⟨by decide +kernel, by decide +kernel⟩, List.mem_of_getElem? (i := 25) (by decide +kernel), List.mem_of_getElem? (i := 341) (by decide +kernel), List.mem_of_getElem? (i := 342) (by decide +kernel)⟩
theorem lw_p6 : lw_okq (⟨"Flapline$Board", "fix", "(III)V"⟩, 6) := ⟨⟨by decide +kernel, by decide +kernel⟩, List.mem_of_getElem? (i := 25) (by decide +kernel), List.mem_of_getElem? (i := 351) (by decide +kernel), List.mem_of_getElem? (i := 352) (by decide +kernel)⟩
theorem lw_p7 : lw_okq (⟨"Flapline$Board", "withStuck", "(J)J"⟩, 6) := ⟨⟨by decide +kernel, by decide +kernel⟩, List.mem_of_getElem? (i := 25) (by decide +kernel), List.mem_of_getElem? (i := 356) (by decide +kernel), List.mem_of_getElem? (i := 357) (by decide +kernel)⟩
theorem lw_p8 : lw_okq (⟨"Flapline$Board", "renewColumn", "(I)V"⟩, 6) := ⟨⟨by decide +kernel, by decide +kernel⟩, List.mem_of_getElem? (i := 25) (by decide +kernel), List.mem_of_getElem? (i := 367) (by decide +kernel), List.mem_of_getElem? (i := 368) (by decide +kernel)⟩
theorem lw_p9 : lw_okq (⟨"Flapline", "signFact", "(I)I"⟩, 9) := ⟨⟨by decide +kernel, by decide +kernel⟩, List.mem_of_getElem? (i := 17) (by decide +kernel), List.mem_of_getElem? (i := 379) (by decide +kernel), List.mem_of_getElem? (i := 380) (by decide +kernel)⟩
theorem lw_p10 : lw_okq (⟨"Flapline", "readAs", "(J)I"⟩, 9) := ⟨⟨by decide +kernel, by decide +kernel⟩, List.mem_of_getElem? (i := 17) (by decide +kernel), List.mem_of_getElem? (i := 383) (by decide +kernel), List.mem_of_getElem? (i := 384) (by decide +kernel)⟩
theorem lw_p11 : lw_okq (⟨"Flapline", "distance", "(JI)I"⟩, 9) := ⟨⟨by decide +kernel, by decide +kernel⟩, List.mem_of_getElem? (i := 17) (by decide +kernel), List.mem_of_getElem? (i := 387) (by decide +kernel), List.mem_of_getElem? (i := 388) (by decide +kernel)⟩
theorem lw_p12 : lw_okq (⟨"Flapline", "lastOffset", "(I)I"⟩, 9) := ⟨⟨by decide +kernel, by decide +kernel⟩, List.mem_of_getElem? (i := 17) (by decide +kernel), List.mem_of_getElem? (i := 391) (by decide +kernel), List.mem_of_getElem? (i := 392) (by decide +kernel)⟩
theorem lw_p13 : lw_okq (⟨"Flapline$Book", "placed", "(II)J"⟩, 7) := ⟨⟨by decide +kernel, by decide +kernel⟩, List.mem_of_getElem? (i := 57) (by decide +kernel), List.mem_of_getElem? (i := 395) (by decide +kernel), List.mem_of_getElem? (i := 396) (by decide +kernel)⟩
theorem lw_p14 : lw_okq (⟨"Flapline$Board", "allFlips", "()I"⟩, 6) := ⟨⟨by decide +kernel, by decide +kernel⟩, List.mem_of_getElem? (i := 25) (by decide +kernel), List.mem_of_getElem? (i := 408) (by decide +kernel), List.mem_of_getElem? (i := 409) (by decide +kernel)⟩
theorem lw_p15 : lw_okq (⟨"Flapline$Board", "flipsIn", "(I)I"⟩, 6) := ⟨⟨by decide +kernel, by decide +kernel⟩, List.mem_of_getElem? (i := 25) (by decide +kernel), List.mem_of_getElem? (i := 412) (by decide +kernel), List.mem_of_getElem? (i := 413) (by decide +kernel)⟩
def lw_privs_1 : List (MethodName × Nat) := [(⟨"java/lang/Throwable", "fillInStackTrace", "(I)Ljava/lang/Throwable;"⟩, 6), (⟨"Flapline$Board", "begin", "(I)V"⟩, 6), (⟨"Flapline$Book", "addLetter", "(II)I"⟩, 7), (⟨"Flapline", "needDot", "(II)V"⟩, 9), (⟨"Flapline", "needColumn", "(I)V"⟩, 9), (⟨"Flapline$Board", "faceOf", "(II)I"⟩, 6), (⟨"Flapline$Board", "fix", "(III)V"⟩, 6), (⟨"Flapline$Board", "withStuck", "(J)J"⟩, 6), (⟨"Flapline$Board", "renewColumn", "(I)V"⟩, 6), (⟨"Flapline", "signFact", "(I)I"⟩, 9), (⟨"Flapline", "readAs", "(J)I"⟩, 9), (⟨"Flapline", "distance", "(JI)I"⟩, 9), (⟨"Flapline", "lastOffset", "(I)I"⟩, 9), (⟨"Flapline$Book", "placed", "(II)J"⟩, 7), (⟨"Flapline$Board", "allFlips", "()I"⟩, 6), (⟨"Flapline$Board", "flipsIn", "(I)I"⟩, 6)]
theorem lw_r1 : ∀ q ∈ lw_privs_1, lw_okq q := List.forall_mem_cons.mpr ⟨lw_p0, List.forall_mem_cons.mpr ⟨lw_p1, List.forall_mem_cons.mpr ⟨lw_p2, List.forall_mem_cons.mpr ⟨lw_p3, List.forall_mem_cons.mpr ⟨lw_p4, List.forall_mem_cons.mpr ⟨lw_p5, List.forall_mem_cons.mpr ⟨lw_p6, List.forall_mem_cons.mpr ⟨lw_p7, List.forall_mem_cons.mpr ⟨lw_p8, List.forall_mem_cons.mpr ⟨lw_p9, List.forall_mem_cons.mpr ⟨lw_p10, List.forall_mem_cons.mpr ⟨lw_p11, List.forall_mem_cons.mpr ⟨lw_p12, List.forall_mem_cons.mpr ⟨lw_p13, List.forall_mem_cons.mpr ⟨lw_p14, List.forall_mem_cons.mpr ⟨lw_p15, fun _ h => absurd h List.not_mem_nil⟩⟩⟩⟩⟩⟩⟩⟩⟩⟩⟩⟩⟩⟩⟩⟩
theorem lw_p16 : lw_okq (⟨"Flapline$Wire", "fact", "(I)I"⟩, 5) := ⟨⟨by decide +kernel, by decide +kernel⟩, List.mem_of_getElem? (i := 123) (by decide +kernel), List.mem_of_getElem? (i := 417) (by decide +kernel), List.mem_of_getElem? (i := 418) (by decide +kernel)⟩
theorem lw_p17 : lw_okq (⟨"Flapline$Route", "fact", "(I)I"⟩, 5) := ⟨⟨by decide +kernel, by decide +kernel⟩, List.mem_of_getElem? (i := 145) (by decide +kernel), List.mem_of_getElem? (i := 421) (by decide +kernel), List.mem_of_getElem? (i := 422) (by decide +kernel)⟩
theorem lw_p18 : lw_okq (⟨"Flapline", "planIsTrue", "(I)Z"⟩, 9) := ⟨⟨by decide +kernel, by decide +kernel⟩, List.mem_of_getElem? (i := 17) (by decide +kernel), List.mem_of_getElem? (i := 429) (by decide +kernel), List.mem_of_getElem? (i := 430) (by decide +kernel)⟩
theorem lw_p19 : lw_okq (⟨"Flapline", "makePlan", "(I)V"⟩, 9) := ⟨⟨by decide +kernel, by decide +kernel⟩, List.mem_of_getElem? (i := 17) (by decide +kernel), List.mem_of_getElem? (i := 433) (by decide +kernel), List.mem_of_getElem? (i := 434) (by decide +kernel)⟩
theorem lw_p20 : lw_okq (⟨"Flapline", "bestOffset", "(I)I"⟩, 9) := ⟨⟨by decide +kernel, by decide +kernel⟩, List.mem_of_getElem? (i := 17) (by decide +kernel), List.mem_of_getElem? (i := 437) (by decide +kernel), List.mem_of_getElem? (i := 438) (by decide +kernel)⟩
theorem lw_p21 : lw_okq (⟨"Flapline", "harm", "(II)I"⟩, 9) := ⟨⟨by decide +kernel, by decide +kernel⟩, List.mem_of_getElem? (i := 17) (by decide +kernel), List.mem_of_getElem? (i := 441) (by decide +kernel), List.mem_of_getElem? (i := 442) (by decide +kernel)⟩
theorem lw_p22 : lw_okq (⟨"Flapline$Planner", "giveUp", "()V"⟩, 8) := ⟨⟨by decide +kernel, by decide +kernel⟩, List.mem_of_getElem? (i := 90) (by decide +kernel), List.mem_of_getElem? (i := 445) (by decide +kernel), List.mem_of_getElem? (i := 446) (by decide +kernel)⟩
theorem lw_p23 : lw_okq (⟨"Flapline", "goalAt", "(II)J"⟩, 9) := ⟨⟨by decide +kernel, by decide +kernel⟩, List.mem_of_getElem? (i := 17) (by decide +kernel), List.mem_of_getElem? (i := 449) (by decide +kernel), List.mem_of_getElem? (i := 450) (by decide +kernel)⟩
theorem lw_p24 : lw_okq (⟨"Flapline$Planner", "begin", "(JJI)V"⟩, 8) := ⟨⟨by decide +kernel, by decide +kernel⟩, List.mem_of_getElem? (i := 90) (by decide +kernel), List.mem_of_getElem? (i := 454) (by decide +kernel), List.mem_of_getElem? (i := 455) (by decide +kernel)⟩
theorem lw_p25 : lw_okq (⟨"Flapline$Planner", "countDots", "()V"⟩, 8) := ⟨⟨by decide +kernel, by decide +kernel⟩, List.mem_of_getElem? (i := 90) (by decide +kernel), List.mem_of_getElem? (i := 461) (by decide +kernel), List.mem_of_getElem? (i := 462) (by decide +kernel)⟩
theorem lw_p26 : lw_okq (⟨"Flapline", "says", "(JI)Z"⟩, 9) := ⟨⟨by decide +kernel, by decide +kernel⟩, List.mem_of_getElem? (i := 17) (by decide +kernel), List.mem_of_getElem? (i := 472) (by decide +kernel), List.mem_of_getElem? (i := 473) (by decide +kernel)⟩
theorem lw_p27 : lw_okq (⟨"Flapline", "forbidPlacesOf", "(I)V"⟩, 9) := ⟨⟨by decide +kernel, by decide +kernel⟩, List.mem_of_getElem? (i := 17) (by decide +kernel), List.mem_of_getElem? (i := 476) (by decide +kernel), List.mem_of_getElem? (i := 477) (by decide +kernel)⟩
theorem lw_p28 : lw_okq (⟨"Flapline$Planner", "forbid", "(J)V"⟩, 8) := ⟨⟨by decide +kernel, by decide +kernel⟩, List.mem_of_getElem? (i := 90) (by decide +kernel), List.mem_of_getElem? (i := 480) (by decide +kernel), List.mem_of_getElem? (i := 481) (by decide +kernel)⟩
theorem lw_p29 : lw_okq (⟨"Flapline$Planner", "choose", "()V"⟩, 8) := ⟨⟨by decide +kernel, by decide +kernel⟩, List.mem_of_getElem? (i := 90) (by decide +kernel), List.mem_of_getElem? (i := 485) (by decide +kernel), List.mem_of_getElem? (i := 486) (by decide +kernel)⟩
theorem lw_p30 : lw_okq (⟨"Flapline$Planner", "fewestFrom", "(I)I"⟩, 8) := ⟨⟨by decide +kernel, by decide +kernel⟩, List.mem_of_getElem? (i := 90) (by decide +kernel), List.mem_of_getElem? (i := 489) (by decide +kernel), List.mem_of_getElem? (i := 490) (by decide +kernel)⟩
theorem lw_p31 : lw_okq (⟨"Flapline$Planner", "canBeOneStep", "(I)Z"⟩, 8) := ⟨⟨by decide +kernel, by decide +kernel⟩, List.mem_of_getElem? (i := 90) (by decide +kernel), List.mem_of_getElem? (i := 493) (by decide +kernel), List.mem_of_getElem? (i := 494) (by decide +kernel)⟩
def lw_privs_2 : List (MethodName × Nat) := [(⟨"Flapline$Wire", "fact", "(I)I"⟩, 5), (⟨"Flapline$Route", "fact", "(I)I"⟩, 5), (⟨"Flapline", "planIsTrue", "(I)Z"⟩, 9), (⟨"Flapline", "makePlan", "(I)V"⟩, 9), (⟨"Flapline", "bestOffset", "(I)I"⟩, 9), (⟨"Flapline", "harm", "(II)I"⟩, 9), (⟨"Flapline$Planner", "giveUp", "()V"⟩, 8), (⟨"Flapline", "goalAt", "(II)J"⟩, 9), (⟨"Flapline$Planner", "begin", "(JJI)V"⟩, 8), (⟨"Flapline$Planner", "countDots", "()V"⟩, 8), (⟨"Flapline", "says", "(JI)Z"⟩, 9), (⟨"Flapline", "forbidPlacesOf", "(I)V"⟩, 9), (⟨"Flapline$Planner", "forbid", "(J)V"⟩, 8), (⟨"Flapline$Planner", "choose", "()V"⟩, 8), (⟨"Flapline$Planner", "fewestFrom", "(I)I"⟩, 8), (⟨"Flapline$Planner", "canBeOneStep", "(I)Z"⟩, 8)]
theorem lw_r2 : ∀ q ∈ lw_privs_2, lw_okq q := List.forall_mem_cons.mpr ⟨lw_p16, List.forall_mem_cons.mpr ⟨lw_p17, List.forall_mem_cons.mpr ⟨lw_p18, List.forall_mem_cons.mpr ⟨lw_p19, List.forall_mem_cons.mpr ⟨lw_p20, List.forall_mem_cons.mpr ⟨lw_p21, List.forall_mem_cons.mpr ⟨lw_p22, List.forall_mem_cons.mpr ⟨lw_p23, List.forall_mem_cons.mpr ⟨lw_p24, List.forall_mem_cons.mpr ⟨lw_p25, List.forall_mem_cons.mpr ⟨lw_p26, List.forall_mem_cons.mpr ⟨lw_p27, List.forall_mem_cons.mpr ⟨lw_p28, List.forall_mem_cons.mpr ⟨lw_p29, List.forall_mem_cons.mpr ⟨lw_p30, List.forall_mem_cons.mpr ⟨lw_p31, fun _ h => absurd h List.not_mem_nil⟩⟩⟩⟩⟩⟩⟩⟩⟩⟩⟩⟩⟩⟩⟩⟩
theorem lw_p32 : lw_okq (⟨"Flapline$Planner", "smallestFrom", "(I)I"⟩, 8) := ⟨⟨by decide +kernel, by decide +kernel⟩, List.mem_of_getElem? (i := 90) (by decide +kernel), List.mem_of_getElem? (i := 497) (by decide +kernel), List.mem_of_getElem? (i := 498) (by decide +kernel)⟩
theorem lw_p33 : lw_okq (⟨"Flapline$Planner", "setOf", "(I)I"⟩, 8) := ⟨⟨by decide +kernel, by decide +kernel⟩, List.mem_of_getElem? (i := 90) (by decide +kernel), List.mem_of_getElem? (i := 501) (by decide +kernel), List.mem_of_getElem? (i := 502) (by decide +kernel)⟩
theorem lw_p34 : lw_okq (⟨"Flapline$Planner", "pictureBehind", "(I)J"⟩, 8) := ⟨⟨by decide +kernel, by decide +kernel⟩, List.mem_of_getElem? (i := 90) (by decide +kernel), List.mem_of_getElem? (i := 505) (by decide +kernel), List.mem_of_getElem? (i := 506) (by decide +kernel)⟩
theorem lw_p35 : lw_okq (⟨"Flapline", "isWrong", "(JI)Z"⟩, 9) := ⟨⟨by decide +kernel, by decide +kernel⟩, List.mem_of_getElem? (i := 17) (by decide +kernel), List.mem_of_getElem? (i := 511) (by decide +kernel), List.mem_of_getElem? (i := 512) (by decide +kernel)⟩
theorem lw_p36 : lw_okq (⟨"Flapline$Board", "isTrue", "()Z"⟩, 6) := ⟨⟨by decide +kernel, by decide +kernel⟩, List.mem_of_getElem? (i := 25) (by decide +kernel), List.mem_of_getElem? (i := 515) (by decide +kernel), List.mem_of_getElem? (i := 516) (by decide +kernel)⟩
theorem lw_p37 : lw_okq (⟨"Flapline$Route", "isTrue", "()Z"⟩, 5) := ⟨⟨by decide +kernel, by decide +kernel⟩, List.mem_of_getElem? (i := 145) (by decide +kernel), List.mem_of_getElem? (i := 519) (by decide +kernel), List.mem_of_getElem? (i := 520) (by decide +kernel)⟩
theorem lw_p38 : lw_okq (⟨"Flapline", "columnFact", "(II)I"⟩, 9) := ⟨⟨by decide +kernel, by decide +kernel⟩, List.mem_of_getElem? (i := 17) (by decide +kernel), List.mem_of_getElem? (i := 529) (by decide +kernel), List.mem_of_getElem? (i := 530) (by decide +kernel)⟩
theorem lw_p39 : lw_okq (⟨"Flapline", "addLineTo", "(JI)J"⟩, 9) := ⟨⟨by decide +kernel, by decide +kernel⟩, List.mem_of_getElem? (i := 17) (by decide +kernel), List.mem_of_getElem? (i := 535) (by decide +kernel), List.mem_of_getElem? (i := 536) (by decide +kernel)⟩
theorem lw_p40 : lw_okq (⟨"Flapline", "lineFact", "(II)I"⟩, 9) := ⟨⟨by decide +kernel, by decide +kernel⟩, List.mem_of_getElem? (i := 17) (by decide +kernel), List.mem_of_getElem? (i := 539) (by decide +kernel), List.mem_of_getElem? (i := 540) (by decide +kernel)⟩
theorem lw_p41 : lw_okq (⟨"Flapline", "leastHarm", "(I)I"⟩, 9) := ⟨⟨by decide +kernel, by decide +kernel⟩, List.mem_of_getElem? (i := 17) (by decide +kernel), List.mem_of_getElem? (i := 543) (by decide +kernel), List.mem_of_getElem? (i := 544) (by decide +kernel)⟩
theorem lw_p42 : lw_okq (⟨"Flapline$Planner", "flips", "()I"⟩, 8) := ⟨⟨by decide +kernel, by decide +kernel⟩, List.mem_of_getElem? (i := 90) (by decide +kernel), List.mem_of_getElem? (i := 547) (by decide +kernel), List.mem_of_getElem? (i := 548) (by decide +kernel)⟩
theorem lw_p43 : lw_okq (⟨"Flapline", "readOfGoal", "(I)I"⟩, 9) := ⟨⟨by decide +kernel, by decide +kernel⟩, List.mem_of_getElem? (i := 17) (by decide +kernel), List.mem_of_getElem? (i := 552) (by decide +kernel), List.mem_of_getElem? (i := 553) (by decide +kernel)⟩
theorem lw_p44 : lw_okq (⟨"Flapline$Book", "canSpell", "(I)Z"⟩, 7) := ⟨⟨by decide +kernel, by decide +kernel⟩, List.mem_of_getElem? (i := 57) (by decide +kernel), List.mem_of_getElem? (i := 573) (by decide +kernel), List.mem_of_getElem? (i := 574) (by decide +kernel)⟩
theorem lw_p45 : lw_okq (⟨"Flapline$Book", "hasRow", "(I)Z"⟩, 7) := ⟨⟨by decide +kernel, by decide +kernel⟩, List.mem_of_getElem? (i := 57) (by decide +kernel), List.mem_of_getElem? (i := 578) (by decide +kernel), List.mem_of_getElem? (i := 579) (by decide +kernel)⟩
theorem lw_p46 : lw_okq (⟨"Flapline$Book", "addLine", "(I)I"⟩, 7) := ⟨⟨by decide +kernel, by decide +kernel⟩, List.mem_of_getElem? (i := 57) (by decide +kernel), List.mem_of_getElem? (i := 584) (by decide +kernel), List.mem_of_getElem? (i := 585) (by decide +kernel)⟩
theorem lw_p47 : lw_okq (⟨"Flapline$Book", "letterFrom", "(II)J"⟩, 7) := ⟨⟨by decide +kernel, by decide +kernel⟩, List.mem_of_getElem? (i := 57) (by decide +kernel), List.mem_of_getElem? (i := 588) (by decide +kernel), List.mem_of_getElem? (i := 589) (by decide +kernel)⟩
def lw_privs_3 : List (MethodName × Nat) := [(⟨"Flapline$Planner", "smallestFrom", "(I)I"⟩, 8), (⟨"Flapline$Planner", "setOf", "(I)I"⟩, 8), (⟨"Flapline$Planner", "pictureBehind", "(I)J"⟩, 8), (⟨"Flapline", "isWrong", "(JI)Z"⟩, 9), (⟨"Flapline$Board", "isTrue", "()Z"⟩, 6), (⟨"Flapline$Route", "isTrue", "()Z"⟩, 5), (⟨"Flapline", "columnFact", "(II)I"⟩, 9), (⟨"Flapline", "addLineTo", "(JI)J"⟩, 9), (⟨"Flapline", "lineFact", "(II)I"⟩, 9), (⟨"Flapline", "leastHarm", "(I)I"⟩, 9), (⟨"Flapline$Planner", "flips", "()I"⟩, 8), (⟨"Flapline", "readOfGoal", "(I)I"⟩, 9), (⟨"Flapline$Book", "canSpell", "(I)Z"⟩, 7), (⟨"Flapline$Book", "hasRow", "(I)Z"⟩, 7), (⟨"Flapline$Book", "addLine", "(I)I"⟩, 7), (⟨"Flapline$Book", "letterFrom", "(II)J"⟩, 7)]
theorem lw_r3 : ∀ q ∈ lw_privs_3, lw_okq q := List.forall_mem_cons.mpr ⟨lw_p32, List.forall_mem_cons.mpr ⟨lw_p33, List.forall_mem_cons.mpr ⟨lw_p34, List.forall_mem_cons.mpr ⟨lw_p35, List.forall_mem_cons.mpr ⟨lw_p36, List.forall_mem_cons.mpr ⟨lw_p37, List.forall_mem_cons.mpr ⟨lw_p38, List.forall_mem_cons.mpr ⟨lw_p39, List.forall_mem_cons.mpr ⟨lw_p40, List.forall_mem_cons.mpr ⟨lw_p41, List.forall_mem_cons.mpr ⟨lw_p42, List.forall_mem_cons.mpr ⟨lw_p43, List.forall_mem_cons.mpr ⟨lw_p44, List.forall_mem_cons.mpr ⟨lw_p45, List.forall_mem_cons.mpr ⟨lw_p46, List.forall_mem_cons.mpr ⟨lw_p47, fun _ h => absurd h List.not_mem_nil⟩⟩⟩⟩⟩⟩⟩⟩⟩⟩⟩⟩⟩⟩⟩⟩
theorem lw_p48 : lw_okq (⟨"Flapline", "needLine", "(I)V"⟩, 9) := ⟨⟨by decide +kernel, by decide +kernel⟩, List.mem_of_getElem? (i := 17) (by decide +kernel), List.mem_of_getElem? (i := 603) (by decide +kernel), List.mem_of_getElem? (i := 604) (by decide +kernel)⟩
theorem lw_p49 : lw_okq (⟨"Flapline", "isLine", "(I)Z"⟩, 9) := ⟨⟨by decide +kernel, by decide +kernel⟩, List.mem_of_getElem? (i := 17) (by decide +kernel), List.mem_of_getElem? (i := 607) (by decide +kernel), List.mem_of_getElem? (i := 608) (by decide +kernel)⟩
theorem lw_p50 : lw_okq (⟨"Flapline", "bringUp", "(I)I"⟩, 9) := ⟨⟨by decide +kernel, by decide +kernel⟩, List.mem_of_getElem? (i := 17) (by decide +kernel), List.mem_of_getElem? (i := 630) (by decide +kernel), List.mem_of_getElem? (i := 631) (by decide +kernel)⟩
theorem lw_p51 : lw_okq (⟨"Flapline$Board", "turnTo", "(J)V"⟩, 6) := ⟨⟨by decide +kernel, by decide +kernel⟩, List.mem_of_getElem? (i := 25) (by decide +kernel), List.mem_of_getElem? (i := 634) (by decide +kernel), List.mem_of_getElem? (i := 635) (by decide +kernel)⟩
theorem lw_p52 : lw_okq (⟨"Flapline$Board", "stuckFaceOf", "(II)I"⟩, 6) := ⟨⟨by decide +kernel, by decide +kernel⟩, List.mem_of_getElem? (i := 25) (by decide +kernel), List.mem_of_getElem? (i := 651) (by decide +kernel), List.mem_of_getElem? (i := 652) (by decide +kernel)⟩
def lw_privs_4 : List (MethodName × Nat) := [(⟨"Flapline", "needLine", "(I)V"⟩, 9), (⟨"Flapline", "isLine", "(I)Z"⟩, 9), (⟨"Flapline", "bringUp", "(I)I"⟩, 9), (⟨"Flapline$Board", "turnTo", "(J)V"⟩, 6), (⟨"Flapline$Board", "stuckFaceOf", "(II)I"⟩, 6)]
theorem lw_r4 : ∀ q ∈ lw_privs_4, lw_okq q := List.forall_mem_cons.mpr ⟨lw_p48, List.forall_mem_cons.mpr ⟨lw_p49, List.forall_mem_cons.mpr ⟨lw_p50, List.forall_mem_cons.mpr ⟨lw_p51, List.forall_mem_cons.mpr ⟨lw_p52, fun _ h => absurd h List.not_mem_nil⟩⟩⟩⟩⟩
def lw_privs : List (MethodName × Nat) := lw_privs_1 ++ (lw_privs_2 ++ (lw_privs_3 ++ (lw_privs_4)))
def lw_tbl : List Cond := k2_sels lw_privs ++ tables_1
theorem lw_privs_ok : ∀ q ∈ lw_privs, lw_okq q := by
  show ∀ q ∈ lw_privs_1 ++ (lw_privs_2 ++ (lw_privs_3 ++ (lw_privs_4))), lw_okq q
  exact List.forall_mem_append.mpr ⟨lw_r1, List.forall_mem_append.mpr ⟨lw_r2, List.forall_mem_append.mpr ⟨lw_r3, lw_r4⟩⟩⟩
-- ===== end of PART A; then your names; then what follows =====
/-! ===== BEGIN words of one list among another's, by their places ===== -/
theorem goodIn_r {big : List Cond} (ws : List Cond) (ps : List Nat) (hp : ws = ps.filterMap (fun i => big[i]?)) (h : ws.all goodWord = true) : GoodIn big ws := by
  intro w hw
  have h1 := List.all_eq_true.mp h w hw
  rw [hp] at hw
  obtain ⟨i, -, hi⟩ := List.mem_filterMap.mp hw
  have hm : w ∈ big := by first | exact List.mem_of_getElem? hi | exact List.getElem?_mem hi
  exact ⟨hm, good_of_word h1⟩
theorem goodIn_app {big a b : List Cond} (ha : GoodIn big a) (hb : GoodIn big b) : GoodIn big (a ++ b) := fun w h => (List.mem_append.mp h).elim (ha w) (hb w)
theorem goodIn_ca {big a b : List Cond} {c : Cond} (ha : GoodIn big (c :: a)) (hb : GoodIn big b) : GoodIn big (c :: (a ++ b)) := fun w h => (List.mem_cons.mp h).elim (fun e => ha w (List.mem_cons.mpr (Or.inl e))) (fun h => (List.mem_append.mp h).elim (fun h => ha w (List.mem_cons.mpr (Or.inr h))) (hb w))
theorem goodIn_sub {big ws : List Cond} (hm : ∀ w ∈ ws, w ∈ big) (h : ws.all goodWord = true) : GoodIn big ws := fun w hw => ⟨hm w hw, good_of_word (List.all_eq_true.mp h w hw)⟩
/-! ===== END ===== -/

/-! ===== BEGIN exceptions that leave a method, and their catching by the caller (launches without stack traces) ===== -/
section VXA
/-! The laws vx_back, vx_callV, vx_callS, vx_callSW, vx_throw0, vx_throwS follow proofs of the library, with one case more: JvmDerived/Free/Laws.lean (Back.of_free), Shelf42/LK1.lean (callV, callS), Shelf/KitTraced.lean (throwNew0V, throwNewS). -/
/-- where a method has thrown q: the class by its name, the cell, what was written, the world -/
def vx_T (XC : String → State → State → Prop) (st : State) (q : Addr) (t : State) (mc ms : Nat) (free : Addr → Prop) : Prop :=
  ∃ (E : String) (ce : Cell) (L : List Loc), XC E st t ∧ t.heap[q]? = some ce ∧ ce.vm = .none ∧ st.vm.findClass E = some ce.cls ∧ st.WarmedH t.vm ∧ st.sameButNew ({ t with vm := st.vm } : State) L mc ms ∧ ∀ z ∈ L, free z.base
def vx_Q (Qc : Array Value → State → Outcome → State → Prop) (XC : String → State → State → Prop) (mc ms : Nat) (free : Addr → Prop) : Array Value → State → Outcome → State → Prop := fun a st o t =>
  (Qc a st o t ∧ ∃ L, FrameEnd st o t L mc ms ∧ ∀ q ∈ L, free q.base) ∨ ∃ q, o = .threw q ∧ vx_T XC st q t mc ms free
/-- a callee that returns or throws -/
def vx_Met (l : Launch) (y : MethodName) (ws : List Cond) (rm : Room) (Pc : Array Value → State → Prop) (Qc : Array Value → State → Outcome → State → Prop) (XC : String → State → State → Prop) (mc ms : Nat) (free : Addr → Prop) : Prop :=
  MetFree l y (headSpec ws rm) Pc (fun _ _ _ _ _ => True) (vx_Q Qc XC mc ms free)
def vx_Post (XC : String → State → State → Prop) (mc ms : Nat) (free : Addr → Prop) : Pt → Array Value → Addr → Pt → Prop := fun A a q B =>
  ∃ (g : JFrame) (mk : MethodId) (t : State) (L : List Loc) (E : String) (ce : Cell), B.U.heap = t.heap ∧ B.U.vm = t.vm ∧ XC E (A.U.calling g mk a) t ∧ t.heap[q]? = some ce ∧ ce.vm = .none ∧ A.U.vm.findClass E = some ce.cls ∧ B.locs = A.locs ++ L ∧ (∀ z ∈ L, free z.base) ∧ B.cells = A.cells + mc ∧ B.slots = A.slots + ms
def vx_Back (l : Launch) (R : Room) (p : Program) (e : Env) (below : List Frame) (s : State) (sargs : Array Value) (y : MethodName) (len W9 : Nat)
    (Pre : Pt → Array Value → Prop) (Post : Pt → Array Value → Option Value → Pt → Prop) (PostX : Pt → Array Value → Addr → Pt → Prop) : Prop :=
  ∀ (m : MethodId) (meth : Method) (c : Code) (A : Pt) (g : JFrame) (ig : Instr) (mk : MethodId) (a : Array Value),
    Stand p l e R s m sargs below meth c A.U A.locs A.cells A.slots → g.method = m → g.locals.size = c.maxLocals → decode c.code g.pc = .ok (ig, len) →
    2 * g.monitorRoom + (g.stack.map fun v => v.category).sum ≤ W9 → A.U.methodNamed? y = some mk → Pre A a →
    (∃ (v : Option Value) (B : Pt), Stand p l e R s m sargs below meth c B.U B.locs B.cells B.slots ∧ Post A a v B ∧
      Steps p.tables e below (doInvoke e (A.U.setTop g) [] mk a).1 (B.U.setTop { g with pc := g.pc + len, stack := v.toList ++ g.stack })) ∨
    (∃ (q : Addr) (B : Pt), Stand p l e R s m sargs below meth c B.U B.locs B.cells B.slots ∧ PostX A a q B ∧
      Steps p.tables e below (doInvoke e (A.U.setTop g) [] mk a).1 ((B.U.setTop g).pushFrame (.throwing q)))
section Payer
variable {l : Launch} {R : Room} {p : Program} {e : Env} {below : List Frame} {s : State} {sargs : Array Value} {y : MethodName} {len W9 : Nat}
theorem vx_back {ws : List Cond} {rm : Room} {Pc : Array Value → State → Prop} {Qc : Array Value → State → Outcome → State → Prop} {XC : String → State → State → Prop} {mc ms : Nat} {free : Addr → Prop} {bytes : ByteArray} {maxL : Nat} {ret : Option FieldType}
    (hM : vx_Met l y ws rm Pc Qc XC mc ms free) (hblind : FrameBlind Pc) (hrc : rm.cells = mc) (hrs : rm.slots = ms)
    (hframes : rm.frames + 1 ≤ R.frames) (hlocals : W9 + (maxL + 11) + rm.locals ≤ R.locals)
    (hws : ∀ w ∈ ws, ∀ a' U, s.WarmedH U.vm → w.before a' U = true) (hcode : Cond.code y bytes maxL ret ∈ ws) (hinit : ∀ a' U, s.WarmedH U.vm → (Cond.initialized y.cls).before a' U = true) :
    vx_Back l R p e below s sargs y len W9 (PreOf R mc ms Pc) (PostOf Qc mc ms free) (vx_Post XC mc ms free) := by
  intro m meth c A g ig mk a X hg hsize hdg hW hn hp
  have h1 : (headSpec ws rm).pre.before a A.U = true := atoms_intro fun w hw => hws w hw _ _ X.warmed
  have h2 : (Cond.code y bytes maxL ret).before a A.U = true := hws _ hcode _ _ X.warmed
  have h3 : (Cond.initialized y.cls).before a A.U = true := hinit _ _ X.warmed
  have h4 : A.cells + (headSpec ws rm).room.cells ≤ R.cells := by rw [show (headSpec ws rm).room.cells = mc from hrc]; exact hp.1
  have h5 : A.slots + (headSpec ws rm).room.slots ≤ R.slots := by rw [show (headSpec ws rm).room.slots = ms from hrs]; exact hp.2.1
  have hPc : Pc a (A.U.calling g mk a) := hblind _ _ _ _ hp.2.2
  obtain ⟨U, Ls, c0, s0⟩ := A
  dsimp only [Pt.U, Pt.locs, Pt.cells, Pt.slots] at h1 h2 h3 h4 h5 X hn hPc ⊢
  obtain ⟨methY, cY, hmY, hcY, -, hlY, -, -, -, -⟩ := Cond.code_spec hn h2
  obtain ⟨kY, hkY, -⟩ := className_of_methodNamed hn
  have hinitY : kY.init = .initialized := Cond.initialized_spec (findClass_of_methodNamed hn) hkY h3
  have h : At U g.method c below := by rw [hg]; exact X.here
  have hlocals9 : W9 + (maxL + 11) + (headSpec ws rm).room.locals ≤ R.locals := hlocals
  have happ : (headSpec ws rm).appliesLoose y e.platform (U.calling g mk a) = true :=
    Spec.appliesLoose_calling (g := g) h hdg hn hkY hinitY
      (X.room_calling (g := g) (R' := (headSpec ws rm).room) hsize hmY hcY hframes (by rw [hlY]; omega) h4 h5) h1
  obtain ⟨mid, hmid⟩ := h.above
  have hfr : (U.setTop g).frames = (.java g :: mid) ++ below := by rw [State.frames_setTop' g h.top, hmid]; rfl
  obtain ⟨o, s₂, hsteps, -, hend, hq⟩ := Steps.callFree hM p X.admits X.cas X.clock (acts := []) hfr happ hPc trivial
  have hq' : vx_Q Qc XC mc ms free a (U.calling g mk a) o s₂ := hq
  rw [State.frames_setTop' g h.top] at hend
  obtain ⟨g₀, hg0⟩ := Option.isSome_iff_exists.mp h.top
  obtain ⟨r, hr⟩ := State.topJava?_eq_some.mp hg0
  have hr' : (({ U with heap := s₂.heap, slotsUsed := s₂.slotsUsed } : State).setVm s₂.vm).frames = .java g₀ :: r := hr
  rcases hq' with ⟨hqc, L, hfe, hL⟩ | ⟨q, rfl, E, ce, L, hx, hce, hcv, hcl, hW₂, hsm, hL⟩
  · obtain ⟨⟨v, rfl⟩, hW₂, e2, q2, q3, q4, q5, q6⟩ := id hfe
    have e3 : s₂ = ({ (U.calling g mk a).setFrames s₂.frames with heap := s₂.heap, slotsUsed := s₂.slotsUsed } : State).setVm s₂.vm := by
      have : s₂ = ({ s₂ with vm := (U.calling g mk a).vm } : State).setVm s₂.vm := rfl
      rw [e2] at this
      exact this
    obtain ⟨c₂, i₂, len₂, hc₂, hd₂, hf₂⟩ := hend
    have hW' : U.WarmedH s₂.vm := hW₂
    have hcc : c₂ = c := by
      have h1 : s₂.code? g.method = U.code? g.method := by
        rw [State.code?_eq, State.code?_eq, hW'.alike.method?]
      exact Option.some.inj (hc₂.symm.trans (h1.trans h.code))
    subst hcc
    have hlen : len₂ = len := by rw [hdg] at hd₂; cases hd₂; rfl
    subst hlen
    have hs₂ : s₂ = (({ U with heap := s₂.heap, slotsUsed := s₂.slotsUsed } : State).setVm s₂.vm).setTop { g with pc := g.pc + len₂, stack := v.toList ++ g.stack } := by
      refine e3.trans ?_
      rw [hf₂, State.calling_eq h.top, State.setFrames_setFrames, State.setTop_of_frames _ hr', hr]
      rfl
    have hsame : U.sameButNew ({ U with heap := s₂.heap, slotsUsed := s₂.slotsUsed } : State) L mc ms := by
      refine ⟨?_, q2, q3, q4, q5, q6⟩
      obtain ⟨t, ht, -⟩ := State.frames_cons hr
      show ({ U with heap := s₂.heap, slotsUsed := s₂.slotsUsed } : State) = { U.setFrames U.frames with heap := s₂.heap, slotsUsed := s₂.slotsUsed }
      rw [State.setFrames_self ht]
    subst hg
    refine Or.inl ⟨v, ⟨(({ U with heap := s₂.heap, slotsUsed := s₂.slotsUsed } : State).setVm s₂.vm), Ls ++ L, c0 + mc, s0 + ms⟩,
      ⟨X.admits, X.cas, X.clock, X.frames, X.room, X.hears, X.method, X.code, (X.here.setHeapUsed s₂.heap s₂.slotsUsed).setVm hW'.alike, X.tail, State.WarmedH.trans X.warmed hW', X.limits, X.bytes, X.same.trans (hsame.setVm s.vm)⟩,
      ⟨g, mk, s₂, L, rfl, rfl, hqc, rfl, hL, rfl, rfl⟩, ?_⟩
    show Steps p.tables e below _ ((({ U with heap := s₂.heap, slotsUsed := s₂.slotsUsed } : State).setVm s₂.vm).setTop { g with pc := g.pc + len₂, stack := v.toList ++ g.stack })
    rw [← hs₂]
    exact hsteps
  · obtain ⟨e2, q2, q3, q4, q5, q6⟩ := id hsm
    have e3 : s₂ = ({ (U.calling g mk a).setFrames s₂.frames with heap := s₂.heap, slotsUsed := s₂.slotsUsed } : State).setVm s₂.vm := by
      have : s₂ = ({ s₂ with vm := (U.calling g mk a).vm } : State).setVm s₂.vm := rfl
      rw [e2] at this
      exact this
    have hf₂ : s₂.frames = .throwing q :: .java g :: U.frames.tail := hend
    have hW' : U.WarmedH s₂.vm := hW₂
    have hs₂ : s₂ = ((({ U with heap := s₂.heap, slotsUsed := s₂.slotsUsed } : State).setVm s₂.vm).setTop g).pushFrame (.throwing q) := by
      refine e3.trans ?_
      rw [hf₂, State.calling_eq h.top, State.setFrames_setFrames, State.pushFrame, State.frames_setTop _ hr', State.setTop_of_frames _ hr', State.setFrames_setFrames, hr]
      rfl
    have hsame : U.sameButNew ({ U with heap := s₂.heap, slotsUsed := s₂.slotsUsed } : State) L mc ms := by
      refine ⟨?_, q2, q3, q4, q5, q6⟩
      obtain ⟨t, ht, -⟩ := State.frames_cons hr
      show ({ U with heap := s₂.heap, slotsUsed := s₂.slotsUsed } : State) = { U.setFrames U.frames with heap := s₂.heap, slotsUsed := s₂.slotsUsed }
      rw [State.setFrames_self ht]
    subst hg
    refine Or.inr ⟨q, ⟨(({ U with heap := s₂.heap, slotsUsed := s₂.slotsUsed } : State).setVm s₂.vm), Ls ++ L, c0 + mc, s0 + ms⟩,
      ⟨X.admits, X.cas, X.clock, X.frames, X.room, X.hears, X.method, X.code, (X.here.setHeapUsed s₂.heap s₂.slotsUsed).setVm hW'.alike, X.tail, State.WarmedH.trans X.warmed hW', X.limits, X.bytes, X.same.trans (hsame.setVm s.vm)⟩,
      ⟨g, mk, s₂, L, E, ce, rfl, rfl, hx, hce, hcv, hcl, rfl, hL, rfl, rfl⟩, ?_⟩
    show Steps p.tables e below _ (((({ U with heap := s₂.heap, slotsUsed := s₂.slotsUsed } : State).setVm s₂.vm).setTop g).pushFrame (.throwing q))
    rw [← hs₂]
    exact hsteps
end Payer
section Calls
variable {p : Program} {l : Launch} {e : Env} {R : Room} {s : State} {m : MethodId} {args : Array Value} {below : List Frame} {meth : Method} {c : Code} {T : State} {locs : List Loc} {cells slots : Nat}
theorem vx_callV (X : Stand p l e R s m args below meth c T locs cells slots) (hexec : p.tables.exec = Jvm.exec) {own C : String} {index : Nat} {y : MethodName} {bytes : ByteArray} {maxL : Nat} {ret : Option FieldType}
    (hown : s.vm.findClass own = some m.cls) (hlink : (Cond.methodLink own index y).before args s = true) (hinst : (Cond.instanceMethod y).before args s = true) (hsel : (Cond.selects C y y).before args s = true)
    (hcode : (Cond.code y bytes maxL ret).before args s = true) (hy : y.cls ≠ "java/lang/invoke/MethodHandle" ∧ y.cls ≠ "java/lang/invoke/VarHandle")
    {W9 : Nat} {Pre : Pt → Array Value → Prop} {Post : Pt → Array Value → Option Value → Pt → Prop} {PostX : Pt → Array Value → Addr → Pt → Prop} (hK : vx_Back l R p e below s args y 3 W9 Pre Post PostX)
    {b : Addr} {cellB : Cell} (hcell : T.heap[b]? = some cellB) (hobj : cellB.vm.isStatics = false) (hcls : s.vm.findClass C = some cellB.cls)
    {g : JFrame} (hg : g.method = m) (hsize : g.locals.size = c.maxLocals) {argsL rest : List Value} (hlen : ∀ sig, parseMethodDescriptor y.desc = some sig → argsL.length = sig.parameters.length)
    (hstack : g.stack = argsL.reverse ++ .ref b :: rest) (hW : 2 * g.monitorRoom + (rest.map fun v => v.category).sum ≤ W9) (hdg : decode c.code g.pc = .ok (.invokevirtual index, 3))
    (hpre : ∀ vm₁, s.WarmedH vm₁ → Pre ⟨T.setVm vm₁, locs, cells, slots⟩ (Value.ref b :: argsL).toArray) :
    (∃ (v : Option Value) (vm₁ : Vm) (B : Pt), s.WarmedH vm₁ ∧ Stand p l e R s m args below meth c B.U B.locs B.cells B.slots ∧ Post ⟨T.setVm vm₁, locs, cells, slots⟩ (Value.ref b :: argsL).toArray v B ∧
      ∀ target, Steps p.tables e below (B.U.setTop { g with pc := g.pc + 3, stack := v.toList ++ rest }) target → Steps p.tables e below (T.setTop g) target) ∨
    (∃ (q : Addr) (vm₁ : Vm) (B : Pt), s.WarmedH vm₁ ∧ Stand p l e R s m args below meth c B.U B.locs B.cells B.slots ∧ PostX ⟨T.setVm vm₁, locs, cells, slots⟩ (Value.ref b :: argsL).toArray q B ∧
      Steps p.tables e below (T.setTop g) ((B.U.setTop { g with stack := rest }).pushFrame (.throwing q))) := by
  obtain ⟨mk, methM, hnamed, hmethM, hstM, habM⟩ := Cond.instanceMethod_spec hinst
  obtain ⟨methM', cM, hmethM', -, -, -, -, -, -, hsigM⟩ := Cond.code_spec hnamed hcode
  cases hmethM.symm.trans hmethM'
  obtain ⟨c2, r2, m2, q1, q2, q3, q4, kP, hkP, hkPi⟩ := Cond.selects_spec hsel
  cases hcls.symm.trans q1
  cases (State.methodFound?_of_named hnamed hy).symm.trans q2
  cases hnamed.symm.trans q3
  have hselP : selectMethod e.platform s.vm cellB.cls mk = .method mk := by rw [Launch.admits_selectMethod X.admits]; exact q4
  obtain ⟨vm₁, X₁, hstep₁⟩ := X.invokevirtual hexec hown hlink hnamed hmethM hstM hkP hkPi hy (a := b) (cell := cellB) hcell
    (fun z h => by rw [h] at hobj; cases hobj) hselP hmethM habM hkP hkPi (g := g) hg (argsL := argsL) (rest := rest) (hlen _ hsigM) hstack hdg
  rcases hK m meth c ⟨T.setVm vm₁, locs, cells, slots⟩ { g with stack := rest } (.invokevirtual index) mk (Value.ref b :: argsL).toArray X₁ hg hsize hdg hW (X₁.named hnamed) (hpre vm₁ X₁.warmed) with ⟨v, B, X', hpost, hsteps⟩ | ⟨q, B, X', hpost, hsteps⟩
  · exact Or.inl ⟨v, vm₁, B, X₁.warmed, X', hpost, fun target h => hstep₁ _ fun acts => by rw [doInvoke_state]; exact hsteps.trans h⟩
  · exact Or.inr ⟨q, vm₁, B, X₁.warmed, X', hpost, hstep₁ _ fun acts => by rw [doInvoke_state]; exact hsteps⟩
theorem vx_callS (X : Stand p l e R s m args below meth c T locs cells slots) (hexec : p.tables.exec = Jvm.exec) {own : String} {index : Nat} {y : MethodName} {bytes : ByteArray} {maxL : Nat} {ret : Option FieldType}
    (hown : s.vm.findClass own = some m.cls) (hlink : (Cond.methodLink own index y).before args s = true) (hstat : (Cond.static y).before args s = true) (hinit : (Cond.initialized y.cls).before args s = true)
    (hcode : (Cond.code y bytes maxL ret).before args s = true) (hy : y.cls ≠ "java/lang/invoke/MethodHandle" ∧ y.cls ≠ "java/lang/invoke/VarHandle")
    {W9 : Nat} {Pre : Pt → Array Value → Prop} {Post : Pt → Array Value → Option Value → Pt → Prop} {PostX : Pt → Array Value → Addr → Pt → Prop} (hK : vx_Back l R p e below s args y 3 W9 Pre Post PostX)
    {g : JFrame} (hg : g.method = m) (hsize : g.locals.size = c.maxLocals) {argsL rest : List Value} (hlen : ∀ sig, parseMethodDescriptor y.desc = some sig → argsL.length = sig.parameters.length)
    (hstack : g.stack = argsL.reverse ++ rest) (hW : 2 * g.monitorRoom + (rest.map fun v => v.category).sum ≤ W9) (hdg : decode c.code g.pc = .ok (.invokestatic index, 3))
    (hpre : ∀ vm₁, s.WarmedH vm₁ → Pre ⟨T.setVm vm₁, locs, cells, slots⟩ argsL.toArray) :
    (∃ (v : Option Value) (vm₁ : Vm) (B : Pt), s.WarmedH vm₁ ∧ Stand p l e R s m args below meth c B.U B.locs B.cells B.slots ∧ Post ⟨T.setVm vm₁, locs, cells, slots⟩ argsL.toArray v B ∧
      ∀ target, Steps p.tables e below (B.U.setTop { g with pc := g.pc + 3, stack := v.toList ++ rest }) target → Steps p.tables e below (T.setTop g) target) ∨
    (∃ (q : Addr) (vm₁ : Vm) (B : Pt), s.WarmedH vm₁ ∧ Stand p l e R s m args below meth c B.U B.locs B.cells B.slots ∧ PostX ⟨T.setVm vm₁, locs, cells, slots⟩ argsL.toArray q B ∧
      Steps p.tables e below (T.setTop g) ((B.U.setTop { g with stack := rest }).pushFrame (.throwing q))) := by
  obtain ⟨mk, hnamed⟩ := Cond.code_named hcode
  obtain ⟨methM, cM, hmethM, -, -, -, -, -, -, hsigM⟩ := Cond.code_spec hnamed hcode
  have hstatic : methM.isStatic = true := Cond.static_spec hnamed hmethM hstat
  obtain ⟨kP, hkP, -⟩ := className_of_methodNamed hnamed
  have hinitP : kP.init = .initialized := Cond.initialized_spec (findClass_of_methodNamed hnamed) hkP hinit
  obtain ⟨vm₁, X₁, hstep₁⟩ := X.invokestatic hexec hown hlink hnamed hmethM hstatic hkP hinitP hy (g := g) hg (argsL := argsL) (rest := rest) (hlen _ hsigM) hstack hdg
  rcases hK m meth c ⟨T.setVm vm₁, locs, cells, slots⟩ { g with stack := rest } (.invokestatic index) mk argsL.toArray X₁ hg hsize hdg hW (X₁.named hnamed) (hpre vm₁ X₁.warmed) with ⟨v, B, X', hpost, hsteps⟩ | ⟨q, B, X', hpost, hsteps⟩
  · exact Or.inl ⟨v, vm₁, B, X₁.warmed, X', hpost, fun target h => hstep₁ _ fun acts => by rw [doInvoke_state]; exact hsteps.trans h⟩
  · exact Or.inr ⟨q, vm₁, B, X₁.warmed, X', hpost, hstep₁ _ fun acts => by rw [doInvoke_state]; exact hsteps⟩
end Calls
theorem vx_cls {s : State} {T : State} {vm₁ : Vm} {E : String} {k : ClassId} (hW : s.WarmedH vm₁) (h : (T.setVm vm₁).vm.findClass E = some k) : s.vm.findClass E = some k := by
  have h1 : vm₁.findClass E = some k := h
  rw [hW.alike.findClass] at h1
  exact h1
/-- the method's frame g, with q thrown over it -/
def vx_W (p : Program) (l : Launch) (e : Env) (R : Room) (s : State) (m : MethodId) (args : Array Value) (below : List Frame) (meth : Method) (c : Code) (H : Heap) (locs : List Loc) (cells slots : Nat) (Q : State → Prop) (g : JFrame) (q : Addr) : Prop :=
  ∀ T : State, T.heap = H → Stand p l e R s m args below meth c T locs cells slots → ∃ t, Steps p.tables e below ((T.setTop g).pushFrame (.throwing q)) t ∧ Q t
def vx_Run (p : Program) (l : Launch) (e : Env) (R : Room) (s : State) (m : MethodId) (args : Array Value) (below : List Frame) (meth : Method) (c : Code) (H : Heap) (locs : List Loc) (cells slots mc ms : Nat) (g : JFrame) (rest : List Value) (Qa : State → Outcome → State → Prop) (XC : String → State → State → Prop) (free : Addr → Prop) : Prop :=
  ∀ T : State, T.heap = H → Stand p l e R s m args below meth c T locs cells slots →
    (∃ (v : Option Value) (st₀ t T' : State) (L : List Loc), st₀.heap = H ∧ Stand p l e R s m args below meth c T' (locs ++ L) (cells + mc) (slots + ms) ∧ (∀ q ∈ L, free q.base) ∧ T'.heap = t.heap ∧ T'.vm = t.vm ∧ Qa st₀ (.returned v) t ∧
      Goes p e below T g T' { g with pc := g.pc + 3, stack := v.toList ++ rest }) ∨
    (∃ (q : Addr) (st₀ t T' : State) (L : List Loc) (E : String) (ce : Cell), st₀.heap = H ∧ Stand p l e R s m args below meth c T' (locs ++ L) (cells + mc) (slots + ms) ∧ (∀ z ∈ L, free z.base) ∧ T'.heap = t.heap ∧ T'.vm = t.vm ∧ XC E st₀ t ∧ t.heap[q]? = some ce ∧ ce.vm = .none ∧ s.vm.findClass E = some ce.cls ∧
      Steps p.tables e below (T.setTop g) ((T'.setTop { g with stack := rest }).pushFrame (.throwing q)))
def vx_X {S : Type} (px : S → Prop) (B : String → S → State → Prop) (A : Nat → Prop) : String → State → State → Prop := fun E st t => ∃ u : S, px u ∧ B E u t ∧ va_F A st t
section Runs
variable {p : Program} {l : Launch} {e : Env} {R : Room} {s : State} {m : MethodId} {args : Array Value} {below : List Frame} {meth : Method} {c : Code} {H : Heap} {locs : List Loc} {cells slots : Nat}
variable {y : MethodName} {bytes cc : ByteArray} {maxL nL mc ms n index : Nat} {ret : Option FieldType} {ws : List Cond} {rm : Room} {Pc : Array Value → State → Prop} {Qc : Array Value → State → Outcome → State → Prop} {XC : String → State → State → Prop} {free : Addr → Prop} {Ts : List Cond} {own C : String} {b : Addr} {As rest : List Value} {g : JFrame}
theorem vx_callBack (cb : CallB R s args own index y bytes maxL ret ws rm mc ms n) (hM : vx_Met l y ws rm Pc Qc XC mc ms free) (hbl : FrameBlind Pc) : vx_Back l R p e below s args y 3 8 (PreOf R mc ms Pc) (PostOf Qc mc ms free) (vx_Post XC mc ms free) := by
  obtain ⟨hrc, hrs, hfr, hlo, hws, hcw, -, hini, -⟩ := cb
  exact vx_back (bytes := bytes) (maxL := maxL) (ret := ret) hM hbl hrc hrs hfr hlo hws hcw (fun a' U hW => word_at hW (Or.inl (by first | rfl | simp [Cond.onTables, Cond.keeps, Cond.steady])) hini)
theorem vx_runV (S : CallFix p m c cc nL s args Ts own) (hM : vx_Met l y ws rm Pc Qc XC mc ms free) (cw : CallW R s args own C index y bytes maxL ret ws rm mc ms n) (hp : PreV s H C b Pc As)
    (hg : g.method = m) (hn : As.length = n) (hsize : g.locals.size = nL) (hstack : g.stack = As.reverse ++ .ref b :: rest) (hW : 2 * g.monitorRoom + (rest.map fun v => v.category).sum ≤ 8) (hdg : decode cc g.pc = .ok (.invokevirtual index, 3)) (hf : cells + mc ≤ R.cells ∧ slots + ms ≤ R.slots) :
    vx_Run p l e R s m args below meth c H locs cells slots mc ms g rest (Qc (Value.ref b :: As).toArray) XC free := by
  have hK : vx_Back l R p e below s args y 3 8 (PreOf R mc ms Pc) (PostOf Qc mc ms free) (vx_Post XC mc ms free) := vx_callBack cw.1 hM hp.1
  obtain ⟨⟨-, -, -, -, -, -, hcode, -, hy, hlen, hl⟩, hin, hse⟩ := cw
  obtain ⟨hx, hb, hml, ho, -⟩ := S
  obtain ⟨-, ⟨cellB, hcB, hoB, hclB⟩, hPc⟩ := hp
  intro T hT X
  rcases vx_callV X hx (C := C) (bytes := bytes) (maxL := maxL) (ret := ret) ho hl hin hse hcode hy hK (by rw [hT]; exact hcB) hoB hclB hg (hsize.trans hml.symm) (argsL := As) (rest := rest) (fun sig h => hn.trans (hlen sig h)) hstack hW (by rw [hb]; exact hdg)
    (fun vm₁ hW₁ => ⟨hf.1, hf.2, hPc (T.setVm vm₁) hT hW₁⟩) with ⟨v, vm₁, ⟨U', l2, c2, s2⟩, hW₁, X', ⟨g', mk, t, L, e1, e2, hq, h1, hL, h2, h3⟩, st⟩ | ⟨q, vm₁, ⟨U', l2, c2, s2⟩, hW₁, X', ⟨g', mk, t, L, E, ce, e1, e2, hq, hce, hcv, hcl, h1, hL, h2, h3⟩, st⟩
  · dsimp only [Pt.U, Pt.locs, Pt.cells, Pt.slots] at X' e1 e2 h1 h2 h3 st
    subst h1; subst h2; subst h3
    exact Or.inl ⟨v, (T.setVm vm₁).calling g' mk (Value.ref b :: As).toArray, t, U', L, hT, X', hL, e1, e2, hq, st⟩
  · dsimp only [Pt.U, Pt.locs, Pt.cells, Pt.slots] at X' e1 e2 h1 h2 h3 st hcl
    subst h1; subst h2; subst h3
    exact Or.inr ⟨q, (T.setVm vm₁).calling g' mk (Value.ref b :: As).toArray, t, U', L, E, ce, hT, X', hL, e1, e2, hq, hce, hcv, vx_cls hW₁ hcl, st⟩
theorem vx_runS (S : CallFix p m c cc nL s args Ts own) (hM : vx_Met l y ws rm Pc Qc XC mc ms free) (cw : CallB R s args own index y bytes maxL ret ws rm mc ms n ∧ (Cond.static y).before args s = true) (hp : PreS s H Pc As)
    (hg : g.method = m) (hn : As.length = n) (hsize : g.locals.size = nL) (hstack : g.stack = As.reverse ++ rest) (hW : 2 * g.monitorRoom + (rest.map fun v => v.category).sum ≤ 8) (hdg : decode cc g.pc = .ok (.invokestatic index, 3)) (hf : cells + mc ≤ R.cells ∧ slots + ms ≤ R.slots) :
    vx_Run p l e R s m args below meth c H locs cells slots mc ms g rest (Qc As.toArray) XC free := by
  have hK : vx_Back l R p e below s args y 3 8 (PreOf R mc ms Pc) (PostOf Qc mc ms free) (vx_Post XC mc ms free) := vx_callBack cw.1 hM hp.1
  obtain ⟨⟨-, -, -, -, -, -, hcode, hini, hy, hlen, hl⟩, hstt⟩ := cw
  obtain ⟨hx, hb, hml, ho, -⟩ := S
  intro T hT X
  rcases vx_callS X hx (bytes := bytes) (maxL := maxL) (ret := ret) ho hl hstt hini hcode hy hK hg (hsize.trans hml.symm) (argsL := As) (rest := rest) (fun sig h => hn.trans (hlen sig h)) hstack hW (by rw [hb]; exact hdg)
    (fun vm₁ hW₁ => ⟨hf.1, hf.2, hp.2 (T.setVm vm₁) hT hW₁⟩) with ⟨v, vm₁, ⟨U', l2, c2, s2⟩, hW₁, X', ⟨g', mk, t, L, e1, e2, hq, h1, hL, h2, h3⟩, st⟩ | ⟨q, vm₁, ⟨U', l2, c2, s2⟩, hW₁, X', ⟨g', mk, t, L, E, ce, e1, e2, hq, hce, hcv, hcl, h1, hL, h2, h3⟩, st⟩
  · dsimp only [Pt.U, Pt.locs, Pt.cells, Pt.slots] at X' e1 e2 h1 h2 h3 st
    subst h1; subst h2; subst h3
    exact Or.inl ⟨v, (T.setVm vm₁).calling g' mk As.toArray, t, U', L, hT, X', hL, e1, e2, hq, st⟩
  · dsimp only [Pt.U, Pt.locs, Pt.cells, Pt.slots] at X' e1 e2 h1 h2 h3 st hcl
    subst h1; subst h2; subst h3
    exact Or.inr ⟨q, (T.setVm vm₁).calling g' mk As.toArray, t, U', L, E, ce, hT, X', hL, e1, e2, hq, hce, hcv, vx_cls hW₁ hcl, st⟩
end Runs
section Rows
variable {p : Program} {l : Launch} {e : Env} {R : Room} {s : State} {m : MethodId} {args : Array Value} {below : List Frame} {meth : Method} {c : Code} {H : Heap} {locs : List Loc} {cells slots : Nat} {Q : State → Prop}
variable {mc ms : Nat} {free : Addr → Prop} {A0 A1 : Nat → Prop} {H0 : Heap} {a : Array Value} {pc : Nat} {ls : Array Slot} {st0 rest : List Value}
theorem vx_keep {st₀ t T' : State} {L : List Loc} (h0 : st₀.heap = H) (e1 : T'.heap = t.heap) (hS : va_S A0 H0 H locs) (hA : ∀ q, q < H.size → A1 q → A0 q) (hf : ∀ q, free q → A0 q) (hL : ∀ q ∈ L, free q.base) (hF : va_F A1 st₀ t) :
    H.size ≤ T'.heap.size ∧ (∀ q : Nat, q < H.size → ¬ A1 q → T'.heap[q]? = H[q]?) ∧ va_S A0 H0 T'.heap (locs ++ L) := by
  obtain ⟨hz, hk⟩ := hF
  rw [h0] at hz hk
  exact ⟨by rw [e1]; exact hz, fun q h1 h2 => by rw [e1]; exact hk q h1 h2,
    ⟨Nat.le_trans hS.1 (by rw [e1]; exact hz), fun q h1 h2 => by rw [e1, hk q (Nat.lt_of_lt_of_le h1 hS.1) (fun z => h2 (hA q (Nat.lt_of_lt_of_le h1 hS.1) z))]; exact hS.2.1 q h1 h2, fun q hq => by
      rcases List.mem_append.mp hq with h | h
      · exact hS.2.2 q h
      · exact hf _ (hL q h)⟩⟩
theorem vx_calli {S SX : Type} {post : Int32 → S → Prop} {px : SX → Prop} {B : S → State → Prop} {BX : String → SX → State → Prop} {AX : Nat → Prop} (hr : vx_Run p l e R s m args below meth c H locs cells slots mc ms (F0 m pc ls st0) rest (va_Qi post B A1 a) (vx_X px BX AX) free) (hS : va_S A0 H0 H locs) (hA : ∀ q, q < H.size → A1 q → A0 q) (hf : ∀ q, free q → A0 q) (hAX : ∀ q, q < H.size → AX q → A0 q)
    (kx : ∀ (E : String) (ce : Cell) (q9 : Addr) (u : SX) (t : State) (H1 : Heap) (locs1 : List Loc), t.heap = H1 → s.vm.Alike t.vm → px u → BX E u t → H.size ≤ H1.size → (∀ q : Nat, q < H.size → ¬ AX q → H1[q]? = H[q]?) → va_S A0 H0 H1 locs1 → H1[q9]? = some ce → ce.vm = .none → s.vm.findClass E = some ce.cls → vx_W p l e R s m args below meth c H1 locs1 (cells + mc) (slots + ms) Q (F0 m pc ls rest) q9)
    (kk : ∀ (r : Int32) (u : S) (t : State) (H1 : Heap) (locs1 : List Loc), t.heap = H1 → s.vm.Alike t.vm → post r u → B u t → H.size ≤ H1.size → (∀ q : Nat, q < H.size → ¬ A1 q → H1[q]? = H[q]?) → va_S A0 H0 H1 locs1 → W p l e R s m args below meth c H1 locs1 (cells + mc) (slots + ms) Q (F0 m (pc + 3) ls (.int r :: rest))) : W p l e R s m args below meth c H locs cells slots Q (F0 m pc ls st0) := by
  intro T hT X
  rcases hr T hT X with ⟨v, st₀, t, T', L, h0, X', hL, e1, e2, ⟨⟨r, u, hv, hp, hb⟩, hF⟩, st⟩ | ⟨q, st₀, t, T', L, E, ce, h0, X', hL, e1, e2, ⟨u, hp, hb, hF⟩, hce, hcv, hcl, st⟩
  · cases hv
    obtain ⟨k1, k2, k3⟩ := vx_keep h0 e1 hS hA hf hL hF
    obtain ⟨t2, a1, b1⟩ := kk r u t T'.heap (locs ++ L) e1.symm (by rw [← e2]; exact X'.warmed.alike) hp hb k1 k2 k3 T' rfl X'
    exact ⟨t2, st t2 a1, b1⟩
  · obtain ⟨k1, k2, k3⟩ := vx_keep h0 e1 hS hAX hf hL hF
    obtain ⟨t2, a1, b1⟩ := kx E ce q u t T'.heap (locs ++ L) e1.symm (by rw [← e2]; exact X'.warmed.alike) hp hb k1 k2 k3 (by rw [e1]; exact hce) hcv hcl T' rfl X'
    exact ⟨t2, st.trans a1, b1⟩
theorem vx_calll {S SX : Type} {post : Int64 → S → Prop} {px : SX → Prop} {B : S → State → Prop} {BX : String → SX → State → Prop} {AX : Nat → Prop} (hr : vx_Run p l e R s m args below meth c H locs cells slots mc ms (F0 m pc ls st0) rest (va_Ql post B A1 a) (vx_X px BX AX) free) (hS : va_S A0 H0 H locs) (hA : ∀ q, q < H.size → A1 q → A0 q) (hf : ∀ q, free q → A0 q) (hAX : ∀ q, q < H.size → AX q → A0 q)
    (kx : ∀ (E : String) (ce : Cell) (q9 : Addr) (u : SX) (t : State) (H1 : Heap) (locs1 : List Loc), t.heap = H1 → s.vm.Alike t.vm → px u → BX E u t → H.size ≤ H1.size → (∀ q : Nat, q < H.size → ¬ AX q → H1[q]? = H[q]?) → va_S A0 H0 H1 locs1 → H1[q9]? = some ce → ce.vm = .none → s.vm.findClass E = some ce.cls → vx_W p l e R s m args below meth c H1 locs1 (cells + mc) (slots + ms) Q (F0 m pc ls rest) q9)
    (kk : ∀ (r : Int64) (u : S) (t : State) (H1 : Heap) (locs1 : List Loc), t.heap = H1 → s.vm.Alike t.vm → post r u → B u t → H.size ≤ H1.size → (∀ q : Nat, q < H.size → ¬ A1 q → H1[q]? = H[q]?) → va_S A0 H0 H1 locs1 → W p l e R s m args below meth c H1 locs1 (cells + mc) (slots + ms) Q (F0 m (pc + 3) ls (.long r :: rest))) : W p l e R s m args below meth c H locs cells slots Q (F0 m pc ls st0) := by
  intro T hT X
  rcases hr T hT X with ⟨v, st₀, t, T', L, h0, X', hL, e1, e2, ⟨⟨r, u, hv, hp, hb⟩, hF⟩, st⟩ | ⟨q, st₀, t, T', L, E, ce, h0, X', hL, e1, e2, ⟨u, hp, hb, hF⟩, hce, hcv, hcl, st⟩
  · cases hv
    obtain ⟨k1, k2, k3⟩ := vx_keep h0 e1 hS hA hf hL hF
    obtain ⟨t2, a1, b1⟩ := kk r u t T'.heap (locs ++ L) e1.symm (by rw [← e2]; exact X'.warmed.alike) hp hb k1 k2 k3 T' rfl X'
    exact ⟨t2, st t2 a1, b1⟩
  · obtain ⟨k1, k2, k3⟩ := vx_keep h0 e1 hS hAX hf hL hF
    obtain ⟨t2, a1, b1⟩ := kx E ce q u t T'.heap (locs ++ L) e1.symm (by rw [← e2]; exact X'.warmed.alike) hp hb k1 k2 k3 (by rw [e1]; exact hce) hcv hcl T' rfl X'
    exact ⟨t2, st.trans a1, b1⟩
theorem vx_callf {S SX : Type} {post : UInt32 → S → Prop} {px : SX → Prop} {B : S → State → Prop} {BX : String → SX → State → Prop} {AX : Nat → Prop} (hr : vx_Run p l e R s m args below meth c H locs cells slots mc ms (F0 m pc ls st0) rest (va_Qf post B A1 a) (vx_X px BX AX) free) (hS : va_S A0 H0 H locs) (hA : ∀ q, q < H.size → A1 q → A0 q) (hf : ∀ q, free q → A0 q) (hAX : ∀ q, q < H.size → AX q → A0 q)
    (kx : ∀ (E : String) (ce : Cell) (q9 : Addr) (u : SX) (t : State) (H1 : Heap) (locs1 : List Loc), t.heap = H1 → s.vm.Alike t.vm → px u → BX E u t → H.size ≤ H1.size → (∀ q : Nat, q < H.size → ¬ AX q → H1[q]? = H[q]?) → va_S A0 H0 H1 locs1 → H1[q9]? = some ce → ce.vm = .none → s.vm.findClass E = some ce.cls → vx_W p l e R s m args below meth c H1 locs1 (cells + mc) (slots + ms) Q (F0 m pc ls rest) q9)
    (kk : ∀ (r : UInt32) (u : S) (t : State) (H1 : Heap) (locs1 : List Loc), t.heap = H1 → s.vm.Alike t.vm → post r u → B u t → H.size ≤ H1.size → (∀ q : Nat, q < H.size → ¬ A1 q → H1[q]? = H[q]?) → va_S A0 H0 H1 locs1 → W p l e R s m args below meth c H1 locs1 (cells + mc) (slots + ms) Q (F0 m (pc + 3) ls (.float r :: rest))) : W p l e R s m args below meth c H locs cells slots Q (F0 m pc ls st0) := by
  intro T hT X
  rcases hr T hT X with ⟨v, st₀, t, T', L, h0, X', hL, e1, e2, ⟨⟨r, u, hv, hp, hb⟩, hF⟩, st⟩ | ⟨q, st₀, t, T', L, E, ce, h0, X', hL, e1, e2, ⟨u, hp, hb, hF⟩, hce, hcv, hcl, st⟩
  · cases hv
    obtain ⟨k1, k2, k3⟩ := vx_keep h0 e1 hS hA hf hL hF
    obtain ⟨t2, a1, b1⟩ := kk r u t T'.heap (locs ++ L) e1.symm (by rw [← e2]; exact X'.warmed.alike) hp hb k1 k2 k3 T' rfl X'
    exact ⟨t2, st t2 a1, b1⟩
  · obtain ⟨k1, k2, k3⟩ := vx_keep h0 e1 hS hAX hf hL hF
    obtain ⟨t2, a1, b1⟩ := kx E ce q u t T'.heap (locs ++ L) e1.symm (by rw [← e2]; exact X'.warmed.alike) hp hb k1 k2 k3 (by rw [e1]; exact hce) hcv hcl T' rfl X'
    exact ⟨t2, st.trans a1, b1⟩
theorem vx_calld {S SX : Type} {post : UInt64 → S → Prop} {px : SX → Prop} {B : S → State → Prop} {BX : String → SX → State → Prop} {AX : Nat → Prop} (hr : vx_Run p l e R s m args below meth c H locs cells slots mc ms (F0 m pc ls st0) rest (va_Qd post B A1 a) (vx_X px BX AX) free) (hS : va_S A0 H0 H locs) (hA : ∀ q, q < H.size → A1 q → A0 q) (hf : ∀ q, free q → A0 q) (hAX : ∀ q, q < H.size → AX q → A0 q)
    (kx : ∀ (E : String) (ce : Cell) (q9 : Addr) (u : SX) (t : State) (H1 : Heap) (locs1 : List Loc), t.heap = H1 → s.vm.Alike t.vm → px u → BX E u t → H.size ≤ H1.size → (∀ q : Nat, q < H.size → ¬ AX q → H1[q]? = H[q]?) → va_S A0 H0 H1 locs1 → H1[q9]? = some ce → ce.vm = .none → s.vm.findClass E = some ce.cls → vx_W p l e R s m args below meth c H1 locs1 (cells + mc) (slots + ms) Q (F0 m pc ls rest) q9)
    (kk : ∀ (r : UInt64) (u : S) (t : State) (H1 : Heap) (locs1 : List Loc), t.heap = H1 → s.vm.Alike t.vm → post r u → B u t → H.size ≤ H1.size → (∀ q : Nat, q < H.size → ¬ A1 q → H1[q]? = H[q]?) → va_S A0 H0 H1 locs1 → W p l e R s m args below meth c H1 locs1 (cells + mc) (slots + ms) Q (F0 m (pc + 3) ls (.double r :: rest))) : W p l e R s m args below meth c H locs cells slots Q (F0 m pc ls st0) := by
  intro T hT X
  rcases hr T hT X with ⟨v, st₀, t, T', L, h0, X', hL, e1, e2, ⟨⟨r, u, hv, hp, hb⟩, hF⟩, st⟩ | ⟨q, st₀, t, T', L, E, ce, h0, X', hL, e1, e2, ⟨u, hp, hb, hF⟩, hce, hcv, hcl, st⟩
  · cases hv
    obtain ⟨k1, k2, k3⟩ := vx_keep h0 e1 hS hA hf hL hF
    obtain ⟨t2, a1, b1⟩ := kk r u t T'.heap (locs ++ L) e1.symm (by rw [← e2]; exact X'.warmed.alike) hp hb k1 k2 k3 T' rfl X'
    exact ⟨t2, st t2 a1, b1⟩
  · obtain ⟨k1, k2, k3⟩ := vx_keep h0 e1 hS hAX hf hL hF
    obtain ⟨t2, a1, b1⟩ := kx E ce q u t T'.heap (locs ++ L) e1.symm (by rw [← e2]; exact X'.warmed.alike) hp hb k1 k2 k3 (by rw [e1]; exact hce) hcv hcl T' rfl X'
    exact ⟨t2, st.trans a1, b1⟩
theorem vx_callv {S SX : Type} {post : S → Prop} {px : SX → Prop} {B : S → State → Prop} {BX : String → SX → State → Prop} {AX : Nat → Prop} (hr : vx_Run p l e R s m args below meth c H locs cells slots mc ms (F0 m pc ls st0) rest (va_Qv post B A1 a) (vx_X px BX AX) free) (hS : va_S A0 H0 H locs) (hA : ∀ q, q < H.size → A1 q → A0 q) (hf : ∀ q, free q → A0 q) (hAX : ∀ q, q < H.size → AX q → A0 q)
    (kx : ∀ (E : String) (ce : Cell) (q9 : Addr) (u : SX) (t : State) (H1 : Heap) (locs1 : List Loc), t.heap = H1 → s.vm.Alike t.vm → px u → BX E u t → H.size ≤ H1.size → (∀ q : Nat, q < H.size → ¬ AX q → H1[q]? = H[q]?) → va_S A0 H0 H1 locs1 → H1[q9]? = some ce → ce.vm = .none → s.vm.findClass E = some ce.cls → vx_W p l e R s m args below meth c H1 locs1 (cells + mc) (slots + ms) Q (F0 m pc ls rest) q9)
    (kk : ∀ (u : S) (t : State) (H1 : Heap) (locs1 : List Loc), t.heap = H1 → s.vm.Alike t.vm → post u → B u t → H.size ≤ H1.size → (∀ q : Nat, q < H.size → ¬ A1 q → H1[q]? = H[q]?) → va_S A0 H0 H1 locs1 → W p l e R s m args below meth c H1 locs1 (cells + mc) (slots + ms) Q (F0 m (pc + 3) ls (rest))) : W p l e R s m args below meth c H locs cells slots Q (F0 m pc ls st0) := by
  intro T hT X
  rcases hr T hT X with ⟨v, st₀, t, T', L, h0, X', hL, e1, e2, ⟨⟨u, hv, hp, hb⟩, hF⟩, st⟩ | ⟨q, st₀, t, T', L, E, ce, h0, X', hL, e1, e2, ⟨u, hp, hb, hF⟩, hce, hcv, hcl, st⟩
  · cases hv
    obtain ⟨k1, k2, k3⟩ := vx_keep h0 e1 hS hA hf hL hF
    obtain ⟨t2, a1, b1⟩ := kk u t T'.heap (locs ++ L) e1.symm (by rw [← e2]; exact X'.warmed.alike) hp hb k1 k2 k3 T' rfl X'
    exact ⟨t2, st t2 a1, b1⟩
  · obtain ⟨k1, k2, k3⟩ := vx_keep h0 e1 hS hAX hf hL hF
    obtain ⟨t2, a1, b1⟩ := kx E ce q u t T'.heap (locs ++ L) e1.symm (by rw [← e2]; exact X'.warmed.alike) hp hb k1 k2 k3 (by rw [e1]; exact hce) hcv hcl T' rfl X'
    exact ⟨t2, st.trans a1, b1⟩
/-- caught by the row x of this method's table; the rows ahead don't take it -/
theorem vx_catch {own name : String} {E : String} {ce : Cell} {q : Addr} (hown : s.vm.findClass own = some m.cls) (pre : List ExceptionTableEntry) (x : ExceptionTableEntry) (suf : List ExceptionTableEntry) (hsplit : c.exceptionTable.toList = pre ++ x :: suf)
    (hpass : ∀ z ∈ pre, covers z pc = false ∨ (z.catchType ≠ 0 ∧ ∃ nm : String, (Cond.classLink own z.catchType nm).before args s = true ∧ va_Nc E nm s)) (hx : covers x pc = true) (h0 : x.catchType ≠ 0)
    (hlink : (Cond.classLink own x.catchType name).before args s = true) (hcast : (Cond.castable E name).before args s = true) (hcell : H[q]? = some ce) (hv : ce.vm = .none) (hcl : s.vm.findClass E = some ce.cls)
    (kk : W p l e R s m args below meth c H locs cells slots Q (F0 m x.handlerPc ls [.ref q])) : vx_W p l e R s m args below meth c H locs cells slots Q (F0 m pc ls rest) q := by
  intro T hT X
  have hpl : e.platform.magicAccessors = ({} : Platform).magicAccessors := by rw [X.admits.platform]
  obtain ⟨c3, c4, hc3, hc4, hasg⟩ := Cond.castable_spec hcast
  cases Option.some.inj (hc3.symm.trans hcl)
  obtain ⟨c5, hc5, hcl5⟩ := Cond.classLink_spec hown hlink e.platform hpl
  cases Option.some.inj (hc4.symm.trans hc5)
  obtain ⟨vm', X', st⟩ := X.thenCaughtThrough q (g := F0 m pc ls rest) rfl (Steps.refl _) (by rw [hT]; exact hcell) (by rw [hv]; rfl) (by obtain ⟨k9, h9, -⟩ := Vm.findClass_spec hcl; exact ⟨k9, h9⟩) pre x suf hsplit
    (fun z hz => by
      rcases hpass z hz with h | ⟨hz0, nm, hl1, hn1⟩
      · exact Or.inl h
      · obtain ⟨c6, hc6, hcl6⟩ := Cond.classLink_spec hown hl1 e.platform hpl
        obtain ⟨a8, b8, h1, h2, h3⟩ := hn1
        cases Option.some.inj (h1.symm.trans hcl)
        cases Option.some.inj (h2.symm.trans hc6)
        exact Or.inr ⟨hz0, _, hcl6, h3⟩) hx (Or.inr ⟨h0, c4, hcl5, hasg⟩)
  obtain ⟨t, a1, b1⟩ := kk (T.setVm vm') hT X'
  exact ⟨t, st.trans a1, b1⟩
end Rows
section Ends
variable {p : Program} {l : Launch} {e : Env} {R : Room} {s : State} {m : MethodId} {args : Array Value} {below : List Frame} {meth : Method} {c : Code} {H : Heap} {locs : List Loc} {cells slots : Nat} {Q : State → Prop}
variable {mc ms : Nat} {free : Addr → Prop} {A0 A1 : Nat → Prop} {H0 : Heap} {a : Array Value} {ls : Array Slot} {st0 rest : List Value}
variable {Qc : Array Value → State → Outcome → State → Prop} {XC : String → State → State → Prop}
/-- what a body that may throw owes at its end -/
def vx_MQ (below : List Frame) (Qc : Array Value → State → Outcome → State → Prop) (XC : String → State → State → Prop) (a : Array Value) (s : State) (mc ms : Nat) (free : Addr → Prop) : State → Prop := fun t =>
  ∃ o, t.status = .running ∧ Ended t below o ∧ vx_Q Qc XC mc ms free a s o t
theorem vx_ret {g : JFrame} {mc ms : Nat} (k : W p l e R s m args below meth c H locs cells slots (MQ below Qc args s mc ms free) g) : W p l e R s m args below meth c H locs cells slots (vx_MQ below Qc XC args s mc ms free) g := by
  intro T hT X
  obtain ⟨t, a1, o, b1, b2, b3, b4⟩ := k T hT X
  exact ⟨t, a1, o, b1, b2, Or.inl ⟨b3, b4⟩⟩
/-- not caught here: it goes on to the caller -/
theorem vx_widen {g : JFrame} {q : Addr} {k n : Nat} (h1 : cells ≤ k) (h2 : slots ≤ n) (kk : vx_W p l e R s m args below meth c H locs k n Q g q) : vx_W p l e R s m args below meth c H locs cells slots Q g q := fun T hT X => kk T hT (stand_widen X h1 h2)
theorem vx_out {pc : Nat} {E : String} {ce : Cell} {q : Addr} {mc ms : Nat} (hout : ∀ x ∈ c.exceptionTable.toList, covers x pc = false) (hlocks : meth.locks = false) (hcell : H[q]? = some ce) (hv : ce.vm = .none) (hcl : s.vm.findClass E = some ce.cls)
    (hx : ∀ t : State, t.heap = H → s.vm.Alike t.vm → XC E s t) (hf : ∀ z ∈ locs, free z.base) (hc : cells ≤ mc) (hs : slots ≤ ms) :
    vx_W p l e R s m args below meth c H locs cells slots (vx_MQ below Qc XC args s mc ms free) (F0 m pc ls rest) q := by
  intro T hT X
  obtain ⟨st1, hrun, hend, hW, hsm⟩ := X.leaveThrown q (g := F0 m pc ls rest) rfl rfl rfl hout hlocks
  have hcell9 : (T.setFrames (.throwing q :: below)).heap[q]? = some ce := by
    show T.heap[q]? = some ce
    rw [hT]; exact hcell
  exact ⟨_, st1, .threw q, hrun, hend, Or.inr ⟨q, rfl, E, ce, locs, hx _ hT hW.alike, hcell9, hv, hcl, hW, hsm.mono hc hs, hf⟩⟩
theorem vx_frame {U : State} {k n : Nat} (h : s.sameButNew ({ U with vm := s.vm } : State) locs k n) : s.heap.size ≤ U.heap.size ∧ ∀ q : Nat, q < s.heap.size → (∀ z ∈ locs, z.base ≠ q) → U.heap[q]? = s.heap[q]? := by
  obtain ⟨-, h2, -, -, -, h6⟩ := h
  refine ⟨h2, fun q hq hz => ?_⟩
  obtain ⟨c9, e1, e2, e3, e4⟩ := h6 q _ (Array.getElem?_eq_getElem hq)
  have hs : c9.slots = (s.heap[q]).slots := Array.ext_getElem? fun i => e4 i fun hm => hz _ hm rfl
  have h9 : c9 = s.heap[q] := by
    rw [hs] at e2
    exact e2
  have e5 : U.heap[q]? = some c9 := e1
  rw [e5, h9, Array.getElem?_eq_getElem hq]
/-- the words of a throw but the four that speak of the heap -/
def vx_no (w : Cond) : Bool := decide (w ≠ .isRef (.static Bundle.tN "UNASSIGNED_STACK" Bundle.steD)) && decide (w ≠ .isRef (.static Bundle.tN "SUPPRESSED_SENTINEL" Bundle.listD)) && decide (w ≠ .laysStatic Bundle.tN "UNASSIGNED_STACK" Bundle.steD) && decide (w ≠ .laysStatic Bundle.tN "SUPPRESSED_SENTINEL" Bundle.listD)
def vx_at0 (own : String) (ic : Nat) (X : String) (names : List String) : List Cond := (Bundle.ownAtoms0 own ic X names).filter vx_no
def vx_atS (own : String) (ic : Nat) (X : String) (names : List String) : List Cond := (Bundle.ownAtoms own ic X names).filter vx_no
/-- a word that the tables alone decide, or a good one -/
def vx_ot (w : Cond) : Bool := w.onTables || goodWord w
theorem vx_ot_at {args a' : Array Value} {s U : State} {w : Cond} (hW : s.WarmedH U.vm) (hvm : s.vm = U.vm) (hg : vx_ot w = true) (h : w.before args s = true) : w.before a' U = true := by
  simp only [vx_ot, Bool.or_eq_true] at hg
  rcases hg with hg | hg
  · exact va_tabs hg hvm h
  · exact word_at hW (good_of_word hg) h
/-- a list's words: the good ones out of the method's own list, the others by premises of their own -/
theorem vx_hat {args : Array Value} {s : State} {L B : List Cond} (h1 : ∀ w ∈ L.filter goodWord, w.before args s = true) (h2 : ∀ w ∈ L.filter (fun w => !goodWord w), w ∈ B) (h3 : ∀ w ∈ B, w.before args s = true) : ∀ w ∈ L, w.before args s = true := by
  intro w hw
  by_cases g : goodWord w = true
  · exact h1 w (List.mem_filter.mpr ⟨hw, g⟩)
  · refine h3 w (h2 w (List.mem_filter.mpr ⟨hw, ?_⟩))
    show (!goodWord w) = true
    cases hgw : goodWord w
    · rfl
    · exact absurd hgw g
theorem vx_c {args : Array Value} {s : State} {w : Cond} {B : List Cond} (h : w.before args s = true) (t : ∀ w ∈ B, w.before args s = true) : ∀ w' ∈ w :: B, w'.before args s = true := fun w' h' => (List.mem_cons.mp h').elim (fun e => by rw [e]; exact h) (t w')
theorem vx_n {args : Array Value} {s : State} : ∀ w ∈ ([] : List Cond), w.before args s = true := fun _ h => nomatch h
theorem vx_own {args : Array Value} {s : State} {L : List Cond} (h1 : ∀ w ∈ L.filter vx_no, w.before args s = true)
    (hU : (Cond.isRef (.static Bundle.tN "UNASSIGNED_STACK" Bundle.steD)).before args s = true) (hN : (Cond.isRef (.static Bundle.tN "SUPPRESSED_SENTINEL" Bundle.listD)).before args s = true)
    (lU : (Cond.laysStatic Bundle.tN "UNASSIGNED_STACK" Bundle.steD).before args s = true) (lN : (Cond.laysStatic Bundle.tN "SUPPRESSED_SENTINEL" Bundle.listD).before args s = true) : ∀ w ∈ L, w.before args s = true := by
  intro w hw
  by_cases e1 : w = .isRef (.static Bundle.tN "UNASSIGNED_STACK" Bundle.steD)
  · rw [e1]; exact hU
  · by_cases e2 : w = .isRef (.static Bundle.tN "SUPPRESSED_SENTINEL" Bundle.listD)
    · rw [e2]; exact hN
    · by_cases e3 : w = .laysStatic Bundle.tN "UNASSIGNED_STACK" Bundle.steD
      · rw [e3]; exact lU
      · by_cases e4 : w = .laysStatic Bundle.tN "SUPPRESSED_SENTINEL" Bundle.listD
        · rw [e4]; exact lN
        · exact h1 w (List.mem_filter.mpr ⟨hw, by unfold vx_no; rw [decide_eq_true e1, decide_eq_true e2, decide_eq_true e3, decide_eq_true e4]; rfl⟩)
/-- where a static field lies, its class's statics cell in H -/
def vx_L (C n d : String) (A : Nat → Prop) (U : State) (H : Heap) : Prop := ∃ (c : ClassId) (k : Class) (i : Nat) (f : Field) (a : Nat) (cell : Cell), U.vm.findClass C = some c ∧ U.fieldFound? C n d = some (c, k, i, f) ∧ f.isStatic = true ∧ k.statics = some a ∧ H[a]? = some cell ∧ cell.vm.isStatics = true ∧ cell.cls = c ∧ f.slot < cell.slots.size ∧ k.staticTypes[f.slot]? = some f.type ∧ ¬ A a
theorem vx_L.moved {C n d : String} {A : Nat → Prop} {u U : State} {H : Heap} (hvm : u.vm.Alike U.vm) (h : vx_L C n d A u H) : vx_L C n d A U H := by
  obtain ⟨c, k, i, f, a, cell, h1, h2, h3, h4, h5, h6, h7, h8, h9, h10⟩ := h
  obtain ⟨k', hi', he⟩ := State.fieldFound?_setVm hvm h2
  exact ⟨c, k', i, f, a, cell, by rw [hvm.findClass]; exact h1, hi', h3, by rw [he]; exact h4, h5, h6, h7, h8, by rw [he]; exact h9, h10⟩
theorem vx_L.kept {C n d : String} {A : Nat → Prop} {U : State} {H H1 : Heap} (h : vx_L C n d A U H) (hq : ∀ a : Nat, a < H.size → ¬ A a → H1[a]? = H[a]?) : vx_L C n d A U H1 := by
  obtain ⟨c, k, i, f, a, cell, h1, h2, h3, h4, h5, h6, h7, h8, h9, h10⟩ := h
  exact ⟨c, k, i, f, a, cell, h1, h2, h3, h4, by rw [hq a (Array.getElem?_eq_some_iff.mp h5).1 h10]; exact h5, h6, h7, h8, h9, h10⟩
theorem vx_L.narrow {C n d : String} {A B : Nat → Prop} {U : State} {H : Heap} (h : vx_L C n d A U H) (hAB : ∀ q, B q → A q) : vx_L C n d B U H := by
  obtain ⟨c, k, i, f, a, cell, h1, h2, h3, h4, h5, h6, h7, h8, h9, h10⟩ := h
  exact ⟨c, k, i, f, a, cell, h1, h2, h3, h4, h5, h6, h7, h8, h9, fun z => h10 (hAB _ z)⟩
theorem vx_L.word {C n d : String} {A : Nat → Prop} {s : State} {args : Array Value} (h : vx_L C n d A s s.heap) : (Cond.laysStatic C n d).before args s = true := by
  obtain ⟨c, k, i, f, a, cell, h1, h2, h3, h4, h5, h6, h7, h8, h9, -⟩ := h
  show (Cond.laysStatic C n d).holds args s none s [] = true
  exact Cond.laysStatic_of h1 h2 h3 h4 h5 h6 h7 h8 h9
/-- .. and what it holds: null or some reference -/
def vx_Zq (C n d : String) (A : Nat → Prop) (U : State) (H : Heap) : Prop := va_Zq C n d A U H ∧ vx_L C n d A U H
theorem vx_Zq.moved {C n d : String} {A : Nat → Prop} {u U : State} {H : Heap} (hvm : u.vm.Alike U.vm) (h : vx_Zq C n d A u H) : vx_Zq C n d A U H := ⟨va_Zq.moved hvm h.1, vx_L.moved hvm h.2⟩
theorem vx_Zq.kept {C n d : String} {A : Nat → Prop} {U : State} {H H1 : Heap} (h : vx_Zq C n d A U H) (hq : ∀ a : Nat, a < H.size → ¬ A a → H1[a]? = H[a]?) : vx_Zq C n d A U H1 := ⟨va_Zq.kept h.1 hq, vx_L.kept h.2 hq⟩
theorem vx_Zq.narrow {C n d : String} {A B : Nat → Prop} {U : State} {H : Heap} (h : vx_Zq C n d A U H) (hAB : ∀ q, B q → A q) : vx_Zq C n d B U H := ⟨va_Zq.narrow h.1 hAB, vx_L.narrow h.2 hAB⟩
theorem vx_Zqof {args : Array Value} {s : State} {C n d : String} {A : Nat → Prop} (hl : (Cond.laysStatic C n d).before args s = true) (hini : (Cond.initialized C).before args s = true) (h : (Cond.isRef (.static C n d)).before args s = true) (hA : ∀ a : Nat, a < s.heap.size → ¬ A a) : vx_Zq C n d A s s.heap := by
  refine ⟨va_Zqof hl hini h hA, ?_⟩
  obtain ⟨c, k, i, f, a, cell, h1, h2, h3, h4, h5, h6, h7, h8, h9⟩ := Cond.laysStatic_spec hl
  exact ⟨c, k, i, f, a, cell, h1, h2, h3, h4, h5, h6, h7, h8, h9, hA a (Array.getElem?_eq_some_iff.mp h5).1⟩
theorem vx_isRef {C n d : String} {v : Value} {A : Nat → Prop} {s : State} {args : Array Value} (h : va_Z C n d v A s s.heap) (hv : v.isRef = true) : (Cond.isRef (.static C n d)).before args s = true := by
  obtain ⟨cf, kf, fi, f, a, cell, h1, h2, h3, h4, h5, h6, h7, -⟩ := h
  have he : (Term.static C n d).eval args s none [] s = some v := by
    simp [Term.eval, State.fieldNamed?, h1, h2, h4, h5, h6, h7]
  simp only [Cond.before, Cond.holds, Cond.value, he]
  cases v <;> simp_all [Value.isRef]
theorem vx_isRefq {C n d : String} {A : Nat → Prop} {s : State} {args : Array Value} (h : va_Zq C n d A s s.heap) : (Cond.isRef (.static C n d)).before args s = true := by
  rcases h with h | ⟨t, h⟩
  · exact vx_isRef h rfl
  · exact vx_isRef h rfl
/-- the same frame, seen from here: as if the method were called anew in this heap -/
theorem vx_rebase {T : State} (X : Stand p l e R s m args below meth c T locs cells slots) {R' : Room} (hf : R'.frames ≤ R.frames) (hl : R'.locals ≤ R.locals) (hc : cells + R'.cells ≤ R.cells) (hs : slots + R'.slots ≤ R.slots) :
    Stand p l e R' ((T.setVm s.vm).setFrames (.invoking m args :: below)) m args below meth c T [] 0 0 := by
  have htop : (T.setVm s.vm).topJava?.isSome := X.here.top
  have hF : ((T.setVm s.vm).setFrames (.invoking m args :: below)).frames = .invoking m args :: below := State.frames_setFrames _ (State.cur_lt_of_top htop)
  obtain ⟨g₀, hg0⟩ := Option.isSome_iff_exists.mp htop
  obtain ⟨r, hr⟩ := State.topJava?_eq_some.mp hg0
  have hl9 : e.platform.stackLimits (T.setVm s.vm).me = e.platform.stackLimits s.me := X.limits
  have hb9 : (T.setVm s.vm).me.stackBytes = s.me.stackBytes := X.bytes
  refine ⟨X.admits, X.cas, X.clock, hF, ?_, X.hears, X.method, X.code, X.here, X.tail, X.warmed, ?_, ?_, ?_⟩
  · have h := X.room
    have hU : ((T.setVm s.vm).setFrames (.invoking m args :: below)).localsInUse = s.localsInUse := by
      rw [State.localsInUse_invoking hF (meth := meth) (c := c) X.method X.code, State.localsInUse_invoking X.frames X.method X.code]
    simp only [State.hasRoom, Bool.and_eq_true, decide_eq_true_eq] at h ⊢
    obtain ⟨⟨⟨⟨h1, h2, h3, h4, h5, h6⟩, h7⟩, h8⟩, h9⟩ := h
    rw [X.frames, List.length_cons] at h2 h3
    have q1 := X.heapSize
    have q2 := X.used
    simp only [hF, hU, List.length_cons, State.stackLimits_setFrames, State.stackBytes_setFrames, hl9, hb9]
    refine ⟨⟨⟨⟨by omega, by omega, by omega, by omega, by omega, h6⟩, ?_⟩, ?_⟩, X.book⟩
    · show T.heap.size + R'.cells ≤ e.platform.maxCells
      omega
    · show T.slotsUsed + R'.slots ≤ e.platform.maxSlots
      omega
  · rw [State.stackLimits_setFrames]; rfl
  · rw [State.stackBytes_setFrames]; rfl
  · refine ⟨?_, Nat.le_refl _, Nat.le_refl _, ?_, ?_, fun a c9 h9 => ⟨c9, h9, rfl, rfl, fun _ _ => rfl⟩⟩
    · obtain ⟨t, ht, -⟩ := State.frames_cons hr
      show T.setVm s.vm = { ((T.setVm s.vm).setFrames (.invoking m args :: below)).setFrames (T.setVm s.vm).frames with heap := T.heap, slotsUsed := T.slotsUsed }
      rw [State.setFrames_setFrames, State.setFrames_self ht]
      rfl
    · show T.slotsUsed = T.slotsUsed + ((T.heap.toList.drop T.heap.size).map (·.slots.size)).sum
      rw [List.drop_eq_nil_of_le (Nat.le_of_eq Array.length_toList)]
      rfl
    · show ((T.heap.toList.drop T.heap.size).map (·.slots.size)).sum ≤ 0
      rw [List.drop_eq_nil_of_le (Nat.le_of_eq Array.length_toList)]
      exact Nat.le_refl _
/-- 'throw new E()': new; dup; invokespecial; athrow -/
theorem vx_throw0 {cc : ByteArray} {pc : Nat} (hexec : p.tables.exec = Jvm.exec) (hb : c.code = cc) (hl : l.stackTraces = false) {own cls : String} {names : List String} {ik ic mc ms : Nat} {A : Nat → Prop}
    (hown : s.vm.findClass own = some m.cls) (hcls : Bundle.fit cls = true) (hnames : ∀ n ∈ names, Bundle.fit n = true)
    (hk : (Cond.classLink own ik cls).before args s = true) (hini : (Cond.initialized cls).before args s = true) (hat : ∀ w ∈ vx_at0 own ic cls names, w.before args s = true)
    (hgood : ∀ w ∈ Cond.classLink own ik cls :: Cond.initialized cls :: vx_at0 own ic cls names, vx_ot w = true)
    (hU : vx_Zq Bundle.tN "UNASSIGNED_STACK" Bundle.steD A s s.heap) (hN : vx_Zq Bundle.tN "SUPPRESSED_SENTINEL" Bundle.listD A s s.heap) (hS : va_S A s.heap H locs) (hsize : ls.size = c.maxLocals)
    (d0 : decode cc pc = .ok (.new ik, 3)) (d3 : decode cc (pc + 3) = .ok (.dup, 1)) (d4 : decode cc (pc + 4) = .ok (.invokespecial ic, 3)) (d7 : decode cc (pc + 7) = .ok (.athrow, 1))
    (hout : ∀ x ∈ c.exceptionTable.toList, covers x (pc + 7) = false)
    (hRframes : names.length + 3 < R.frames) (hRlocals : (rest.map fun v => v.category).sum + (13 * (names.length + 1) + 42) ≤ R.locals) (hRcells : cells + 1 ≤ R.cells) (hRslots : slots + 6 ≤ R.slots) (hlocks : meth.locks = false)
    (hx : ∀ t : State, s.vm.Alike t.vm → H.size ≤ t.heap.size → (∀ q : Nat, q < H.size → t.heap[q]? = H[q]?) → XC cls s t)
    (hf : ∀ z ∈ locs, free z.base) (hc : cells + 1 ≤ mc) (hs : slots + 6 ≤ ms) :
    W p l e R s m args below meth c H locs cells slots (vx_MQ below Qc XC args s mc ms free) (F0 m pc ls rest) := by
  intro T hT X
  have htr : e.platform.stackTraces = false := (show e.platform.stackTraces = l.stackTraces by rw [X.admits.platform]).trans hl
  have Y := vx_rebase X (R' := { frames := R.frames, locals := R.locals, cells := 1, slots := 6 }) (Nat.le_refl _) (Nat.le_refl _) hRcells hRslots
  obtain ⟨s', hA⟩ : ∃ z, z = (T.setVm s.vm).setFrames (.invoking m args :: below) := ⟨_, rfl⟩
  rw [← hA] at Y
  have hvm : s'.vm = s.vm := by rw [hA]; rfl
  have hhp : s'.heap = H := by rw [hA]; exact hT
  have hW0 : s.WarmedH s'.vm := by rw [hvm]; exact State.WarmedH.refl s
  have hat' : ∀ w ∈ vx_at0 own ic cls names, w.before args s' = true := fun w hw => vx_ot_at hW0 hvm.symm (hgood w (List.mem_cons_of_mem _ (List.mem_cons_of_mem _ hw))) (hat w hw)
  have hk' : (Cond.classLink own ik cls).before args s' = true := vx_ot_at hW0 hvm.symm (hgood _ List.mem_cons_self) hk
  have hini' : (Cond.initialized cls).before args s' = true := vx_ot_at hW0 hvm.symm (hgood _ (List.mem_cons_of_mem _ List.mem_cons_self)) hini
  have hU' : vx_Zq Bundle.tN "UNASSIGNED_STACK" Bundle.steD A s' s'.heap := by rw [hhp]; exact vx_Zq.moved hW0.alike (hU.kept hS.2.1)
  have hN' : vx_Zq Bundle.tN "SUPPRESSED_SENTINEL" Bundle.listD A s' s'.heap := by rw [hhp]; exact vx_Zq.moved hW0.alike (hN.kept hS.2.1)
  have h : ∀ w ∈ Bundle.ownAtoms0 own ic cls names, w.before args s' = true := vx_own hat' (vx_isRefq hU'.1) (vx_isRefq hN'.1) hU'.2.word hN'.2.word
  have hown' : s'.vm.findClass own = some m.cls := by rw [hvm]; exact hown
  have hins : (Cond.instantiable cls 6).before args s' = true := h _ (by simp [Bundle.ownAtoms0])
  obtain ⟨vm₁, cX, kX, hfX, hkX, -, -, X₁, st1⟩ := Y.newCold hexec (own := own) (C := cls) (index := ik) (n := 6) hown' hk' hins hini'
    (g := F0 m pc ls rest) rfl (by rw [hb]; exact d0) (Nat.le_refl _) (Nat.le_refl _)
  generalize hT1 : (T.setVm vm₁).pushCell { cls := cX, slots := kX.instanceTypes.map defaultValue, vm := .none } = T1 at X₁ st1
  have hcat : (Value.ref T.heap.size).category = 1 := rfl
  have hcellA : T1.heap[T.heap.size]? = some (freshCell cX kX) := by rw [← hT1]; exact State.heap_pushCell_size _ _
  have d3' : decode c.code (pc + 3) = .ok (.dup, 1) := by rw [hb]; exact d3
  obtain ⟨U, hsteps, hrun, hend, hW, hsame, ce, hce, hO⟩ := X₁.ctorThrow0 hexec htr (own := own) (cls := cls) (names := names) (ic := ic) hown' hcls hnames h (fun x hx => nomatch hx) hfX hkX hcellA (by rw [hhp, hT]; exact Nat.le_refl _)
    (g := { method := m, pc := pc + 4, locals := ls, stack := .ref T.heap.size :: .ref T.heap.size :: rest, locked := none }) rfl hsize rfl rfl (rest := rest) rfl
    (by rw [hb]; exact d4) (by rw [hb]; exact d7) hout hRframes (by simp only [List.map_cons, List.sum_cons, hcat]; omega) hlocks
  obtain ⟨f1, f2⟩ := vx_frame hsame
  rw [hhp] at f1 f2
  have hWs : s.WarmedH U.vm := State.WarmedH.trans hW0 hW
  have hcl : s.vm.findClass cls = some ce.cls := by
    have h9 := hO.cls
    rw [hvm] at h9
    exact h9
  have hall : s.sameButNew ({ U with vm := s.vm } : State) locs mc ms := by
    subst hA
    obtain ⟨e1, e2⟩ := hsame
    rw [State.setFrames_setFrames] at e1
    have h2 : (T.setVm s.vm).sameButNew ({ U with vm := s.vm } : State) [] (0 + 1) (0 + 6) := ⟨e1, e2⟩
    have h3 := X.same.trans h2
    rw [List.append_nil] at h3
    exact h3.mono hc hs
  refine ⟨U, ?_, .threw T.heap.size, hrun, hend, Or.inr ⟨T.heap.size, rfl, cls, ce, locs, hx U hWs.alike f1 (fun q hq => f2 q hq (fun z hz => nomatch hz)), hce, hO.vm, hcl, hWs, hall, hf⟩⟩
  refine st1 _ ?_
  show Steps p.tables e below (T1.setTop { method := m, pc := pc + 3, locals := ls, stack := .ref T.heap.size :: rest, locked := none }) _
  jvm_step X₁.here [X₁.here.top, hexec, d3', Value.category]
  exact hsteps
/-- 'throw new E("text")': new; dup; ldc; invokespecial; athrow -/
theorem vx_throwS {cc : ByteArray} {pc : Nat} (hexec : p.tables.exec = Jvm.exec) (hb : c.code = cc) (hl : l.stackTraces = false) {own cls text : String} {names : List String} {ik is ic mc ms sa : Nat} {A : Nat → Prop}
    (hown : s.vm.findClass own = some m.cls) (hcls : Bundle.fit cls = true) (hnames : ∀ n ∈ names, Bundle.fit n = true)
    (hk : (Cond.classLink own ik cls).before args s = true) (hini : (Cond.initialized cls).before args s = true) (hstr : vk_R own is text sa s) (hat : ∀ w ∈ vx_atS own ic cls names, w.before args s = true)
    (hgood : ∀ w ∈ Cond.classLink own ik cls :: Cond.initialized cls :: vx_atS own ic cls names, vx_ot w = true)
    (hU : vx_Zq Bundle.tN "UNASSIGNED_STACK" Bundle.steD A s s.heap) (hN : vx_Zq Bundle.tN "SUPPRESSED_SENTINEL" Bundle.listD A s s.heap) (hS : va_S A s.heap H locs) (hsize : ls.size = c.maxLocals)
    (d0 : decode cc pc = .ok (.new ik, 3)) (d3 : decode cc (pc + 3) = .ok (.dup, 1)) (d4 : decode cc (pc + 4) = .ok (.ldc is, 2)) (d6 : decode cc (pc + 6) = .ok (.invokespecial ic, 3)) (d9 : decode cc (pc + 9) = .ok (.athrow, 1))
    (hout : ∀ x ∈ c.exceptionTable.toList, covers x (pc + 9) = false)
    (hRframes : names.length + 3 < R.frames) (hRlocals : (rest.map fun v => v.category).sum + (13 * (names.length + 1) + 43) ≤ R.locals) (hRcells : cells + 1 ≤ R.cells) (hRslots : slots + 6 ≤ R.slots) (hlocks : meth.locks = false)
    (hx : ∀ t : State, s.vm.Alike t.vm → H.size ≤ t.heap.size → (∀ q : Nat, q < H.size → t.heap[q]? = H[q]?) → XC cls s t)
    (hf : ∀ z ∈ locs, free z.base) (hc : cells + 1 ≤ mc) (hs : slots + 6 ≤ ms) :
    W p l e R s m args below meth c H locs cells slots (vx_MQ below Qc XC args s mc ms free) (F0 m pc ls rest) := by
  intro T hT X
  have htr : e.platform.stackTraces = false := (show e.platform.stackTraces = l.stackTraces by rw [X.admits.platform]).trans hl
  have Y := vx_rebase X (R' := { frames := R.frames, locals := R.locals, cells := 1, slots := 6 }) (Nat.le_refl _) (Nat.le_refl _) hRcells hRslots
  obtain ⟨s', hA⟩ : ∃ z, z = (T.setVm s.vm).setFrames (.invoking m args :: below) := ⟨_, rfl⟩
  rw [← hA] at Y
  have hvm : s'.vm = s.vm := by rw [hA]; rfl
  have hhp : s'.heap = H := by rw [hA]; exact hT
  have hW0 : s.WarmedH s'.vm := by rw [hvm]; exact State.WarmedH.refl s
  have hat' : ∀ w ∈ vx_atS own ic cls names, w.before args s' = true := fun w hw => vx_ot_at hW0 hvm.symm (hgood w (List.mem_cons_of_mem _ (List.mem_cons_of_mem _ hw))) (hat w hw)
  have hk' : (Cond.classLink own ik cls).before args s' = true := vx_ot_at hW0 hvm.symm (hgood _ List.mem_cons_self) hk
  have hini' : (Cond.initialized cls).before args s' = true := vx_ot_at hW0 hvm.symm (hgood _ (List.mem_cons_of_mem _ List.mem_cons_self)) hini
  have hU' : vx_Zq Bundle.tN "UNASSIGNED_STACK" Bundle.steD A s' s'.heap := by rw [hhp]; exact vx_Zq.moved hW0.alike (hU.kept hS.2.1)
  have hN' : vx_Zq Bundle.tN "SUPPRESSED_SENTINEL" Bundle.listD A s' s'.heap := by rw [hhp]; exact vx_Zq.moved hW0.alike (hN.kept hS.2.1)
  have h : ∀ w ∈ Bundle.ownAtoms own ic cls names, w.before args s' = true := vx_own hat' (vx_isRefq hU'.1) (vx_isRefq hN'.1) hU'.2.word hN'.2.word
  have hown' : s'.vm.findClass own = some m.cls := by rw [hvm]; exact hown
  have hins : (Cond.instantiable cls 6).before args s' = true := h _ (by simp [Bundle.ownAtoms])
  obtain ⟨vm₁, cX, kX, hfX, hkX, -, -, X₁, st1⟩ := Y.newCold hexec (own := own) (C := cls) (index := ik) (n := 6) hown' hk' hins hini'
    (g := F0 m pc ls rest) rfl (by rw [hb]; exact d0) (Nat.le_refl _) (Nat.le_refl _)
  generalize hT1 : (T.setVm vm₁).pushCell { cls := cX, slots := kX.instanceTypes.map defaultValue, vm := .none } = T1 at X₁ st1
  have hcat : (Value.ref T.heap.size).category = 1 := rfl
  have hcellA : T1.heap[T.heap.size]? = some (freshCell cX kX) := by rw [← hT1]; exact State.heap_pushCell_size _ _
  have d3' : decode c.code (pc + 3) = .ok (.dup, 1) := by rw [hb]; exact d3
  have d4' : decode c.code (pc + 4) = .ok (.ldc is, 2) := by rw [hb]; exact d4
  have hstr' : vk_R own is text sa s' := vk_R.warm hW0 hstr
  obtain ⟨U, hsteps, hrun, hend, hW, hsame, ce, hce, hO⟩ := X₁.ctorThrowS hexec htr (own := own) (cls := cls) (names := names) (ic := ic) hown' hcls hnames h (fun x hx => nomatch hx) hfX hkX hcellA (by rw [hhp, hT]; exact Nat.le_refl _) (msg := .ref sa) rfl
    (g := { method := m, pc := pc + 6, locals := ls, stack := .ref sa :: .ref T.heap.size :: .ref T.heap.size :: rest, locked := none }) rfl hsize rfl rfl (rest := rest) rfl
    (by rw [hb]; exact d6) (by rw [hb]; exact d9) hout hRframes (by simp only [List.map_cons, List.sum_cons, hcat]; omega) hlocks
  obtain ⟨f1, f2⟩ := vx_frame hsame
  rw [hhp] at f1 f2
  have hWs : s.WarmedH U.vm := State.WarmedH.trans hW0 hW
  have hcl : s.vm.findClass cls = some ce.cls := by
    have h9 := hO.cls
    rw [hvm] at h9
    exact h9
  have hall : s.sameButNew ({ U with vm := s.vm } : State) locs mc ms := by
    subst hA
    obtain ⟨e1, e2⟩ := hsame
    rw [State.setFrames_setFrames] at e1
    have h2 : (T.setVm s.vm).sameButNew ({ U with vm := s.vm } : State) [] (0 + 1) (0 + 6) := ⟨e1, e2⟩
    have h3 := X.same.trans h2
    rw [List.append_nil] at h3
    exact h3.mono hc hs
  refine ⟨U, ?_, .threw T.heap.size, hrun, hend, Or.inr ⟨T.heap.size, rfl, cls, ce, locs, hx U hWs.alike f1 (fun q hq => f2 q hq (fun z hz => nomatch hz)), hce, hO.vm, hcl, hWs, hall, hf⟩⟩
  refine st1 _ ?_
  show Steps p.tables e below (T1.setTop { method := m, pc := pc + 3, locals := ls, stack := .ref T.heap.size :: rest, locked := none }) _
  jvm_step X₁.here [X₁.here.top, hexec, d3', Value.category]
  exact X₁.ldcString hexec (own := own) (text := text) (index := is) (a := sa) hown' hstr'.1 hstr'.2
    (g := { method := m, pc := pc + 4, locals := ls, stack := .ref T.heap.size :: .ref T.heap.size :: rest, locked := none }) rfl d4' _ hsteps
/-- 'throw new E("text")', the text by a wide index -/
theorem vx_throwSW {cc : ByteArray} {pc : Nat} (hexec : p.tables.exec = Jvm.exec) (hb : c.code = cc) (hl : l.stackTraces = false) {own cls text : String} {names : List String} {ik is ic mc ms sa : Nat} {A : Nat → Prop}
    (hown : s.vm.findClass own = some m.cls) (hcls : Bundle.fit cls = true) (hnames : ∀ n ∈ names, Bundle.fit n = true)
    (hk : (Cond.classLink own ik cls).before args s = true) (hini : (Cond.initialized cls).before args s = true) (hstr : vk_R own is text sa s) (hat : ∀ w ∈ vx_atS own ic cls names, w.before args s = true)
    (hgood : ∀ w ∈ Cond.classLink own ik cls :: Cond.initialized cls :: vx_atS own ic cls names, vx_ot w = true)
    (hU : vx_Zq Bundle.tN "UNASSIGNED_STACK" Bundle.steD A s s.heap) (hN : vx_Zq Bundle.tN "SUPPRESSED_SENTINEL" Bundle.listD A s s.heap) (hS : va_S A s.heap H locs) (hsize : ls.size = c.maxLocals)
    (d0 : decode cc pc = .ok (.new ik, 3)) (d3 : decode cc (pc + 3) = .ok (.dup, 1)) (d4 : decode cc (pc + 4) = .ok (.ldc_w is, 3)) (d7 : decode cc (pc + 7) = .ok (.invokespecial ic, 3)) (d10 : decode cc (pc + 10) = .ok (.athrow, 1))
    (hout : ∀ x ∈ c.exceptionTable.toList, covers x (pc + 10) = false)
    (hRframes : names.length + 3 < R.frames) (hRlocals : (rest.map fun v => v.category).sum + (13 * (names.length + 1) + 43) ≤ R.locals) (hRcells : cells + 1 ≤ R.cells) (hRslots : slots + 6 ≤ R.slots) (hlocks : meth.locks = false)
    (hx : ∀ t : State, s.vm.Alike t.vm → H.size ≤ t.heap.size → (∀ q : Nat, q < H.size → t.heap[q]? = H[q]?) → XC cls s t)
    (hf : ∀ z ∈ locs, free z.base) (hc : cells + 1 ≤ mc) (hs : slots + 6 ≤ ms) :
    W p l e R s m args below meth c H locs cells slots (vx_MQ below Qc XC args s mc ms free) (F0 m pc ls rest) := by
  intro T hT X
  have htr : e.platform.stackTraces = false := (show e.platform.stackTraces = l.stackTraces by rw [X.admits.platform]).trans hl
  have Y := vx_rebase X (R' := { frames := R.frames, locals := R.locals, cells := 1, slots := 6 }) (Nat.le_refl _) (Nat.le_refl _) hRcells hRslots
  obtain ⟨s', hA⟩ : ∃ z, z = (T.setVm s.vm).setFrames (.invoking m args :: below) := ⟨_, rfl⟩
  rw [← hA] at Y
  have hvm : s'.vm = s.vm := by rw [hA]; rfl
  have hhp : s'.heap = H := by rw [hA]; exact hT
  have hW0 : s.WarmedH s'.vm := by rw [hvm]; exact State.WarmedH.refl s
  have hat' : ∀ w ∈ vx_atS own ic cls names, w.before args s' = true := fun w hw => vx_ot_at hW0 hvm.symm (hgood w (List.mem_cons_of_mem _ (List.mem_cons_of_mem _ hw))) (hat w hw)
  have hk' : (Cond.classLink own ik cls).before args s' = true := vx_ot_at hW0 hvm.symm (hgood _ List.mem_cons_self) hk
  have hini' : (Cond.initialized cls).before args s' = true := vx_ot_at hW0 hvm.symm (hgood _ (List.mem_cons_of_mem _ List.mem_cons_self)) hini
  have hU' : vx_Zq Bundle.tN "UNASSIGNED_STACK" Bundle.steD A s' s'.heap := by rw [hhp]; exact vx_Zq.moved hW0.alike (hU.kept hS.2.1)
  have hN' : vx_Zq Bundle.tN "SUPPRESSED_SENTINEL" Bundle.listD A s' s'.heap := by rw [hhp]; exact vx_Zq.moved hW0.alike (hN.kept hS.2.1)
  have h : ∀ w ∈ Bundle.ownAtoms own ic cls names, w.before args s' = true := vx_own hat' (vx_isRefq hU'.1) (vx_isRefq hN'.1) hU'.2.word hN'.2.word
  have hown' : s'.vm.findClass own = some m.cls := by rw [hvm]; exact hown
  have hins : (Cond.instantiable cls 6).before args s' = true := h _ (by simp [Bundle.ownAtoms])
  obtain ⟨vm₁, cX, kX, hfX, hkX, -, -, X₁, st1⟩ := Y.newCold hexec (own := own) (C := cls) (index := ik) (n := 6) hown' hk' hins hini'
    (g := F0 m pc ls rest) rfl (by rw [hb]; exact d0) (Nat.le_refl _) (Nat.le_refl _)
  generalize hT1 : (T.setVm vm₁).pushCell { cls := cX, slots := kX.instanceTypes.map defaultValue, vm := .none } = T1 at X₁ st1
  have hcat : (Value.ref T.heap.size).category = 1 := rfl
  have hcellA : T1.heap[T.heap.size]? = some (freshCell cX kX) := by rw [← hT1]; exact State.heap_pushCell_size _ _
  have d3' : decode c.code (pc + 3) = .ok (.dup, 1) := by rw [hb]; exact d3
  have d4' : decode c.code (pc + 4) = .ok (.ldc_w is, 3) := by rw [hb]; exact d4
  have hstr' : vk_R own is text sa s' := vk_R.warm hW0 hstr
  obtain ⟨U, hsteps, hrun, hend, hW, hsame, ce, hce, hO⟩ := X₁.ctorThrowS hexec htr (own := own) (cls := cls) (names := names) (ic := ic) hown' hcls hnames h (fun x hx => nomatch hx) hfX hkX hcellA (by rw [hhp, hT]; exact Nat.le_refl _) (msg := .ref sa) rfl
    (g := { method := m, pc := pc + 7, locals := ls, stack := .ref sa :: .ref T.heap.size :: .ref T.heap.size :: rest, locked := none }) rfl hsize rfl rfl (rest := rest) rfl
    (by rw [hb]; exact d7) (by rw [hb]; exact d10) hout hRframes (by simp only [List.map_cons, List.sum_cons, hcat]; omega) hlocks
  obtain ⟨f1, f2⟩ := vx_frame hsame
  rw [hhp] at f1 f2
  have hWs : s.WarmedH U.vm := State.WarmedH.trans hW0 hW
  have hcl : s.vm.findClass cls = some ce.cls := by
    have h9 := hO.cls
    rw [hvm] at h9
    exact h9
  have hall : s.sameButNew ({ U with vm := s.vm } : State) locs mc ms := by
    subst hA
    obtain ⟨e1, e2⟩ := hsame
    rw [State.setFrames_setFrames] at e1
    have h2 : (T.setVm s.vm).sameButNew ({ U with vm := s.vm } : State) [] (0 + 1) (0 + 6) := ⟨e1, e2⟩
    have h3 := X.same.trans h2
    rw [List.append_nil] at h3
    exact h3.mono hc hs
  refine ⟨U, ?_, .threw T.heap.size, hrun, hend, Or.inr ⟨T.heap.size, rfl, cls, ce, locs, hx U hWs.alike f1 (fun q hq => f2 q hq (fun z hz => nomatch hz)), hce, hO.vm, hcl, hWs, hall, hf⟩⟩
  refine st1 _ ?_
  show Steps p.tables e below (T1.setTop { method := m, pc := pc + 3, locals := ls, stack := .ref T.heap.size :: rest, locked := none }) _
  jvm_step X₁.here [X₁.here.top, hexec, d3', Value.category]
  exact X₁.ldcStringW hexec (own := own) (text := text) (index := is) (a := sa) hown' hstr'.1 hstr'.2
    (g := { method := m, pc := pc + 4, locals := ls, stack := .ref T.heap.size :: .ref T.heap.size :: rest, locked := none }) rfl d4' _ hsteps
end Ends
section Bodies
variable {l : Launch}
theorem vx_ofW {y : MethodName} {ws ws' : List Cond} {rm : Room} {Pc : Array Value → State → Prop} {Qc : Array Value → State → Outcome → State → Prop} {XC : String → State → State → Prop} {mc ms : Nat} {free : Addr → Prop} {cc : ByteArray} {maxL : Nat} {ret : Option FieldType}
    (hy : plainName y.cls = true) (hw : ws = Cond.code y cc maxL ret :: ws')
    (body : ∀ p e s m args below meth c s₁, BodyLoose p l y (headSpec ws rm) cc maxL ret e s m args below meth c s₁ → c.maxLocals = maxL → (∀ x ∈ c.exceptionTable.toList, False) → Pc args s →
      W p l e (headSpec ws rm).room s m args below meth c s.heap [] 0 0 (vx_MQ below Qc XC args s mc ms free) (entryFrame m args maxL)) : vx_Met l y ws rm Pc Qc XC mc ms free := by
  refine MetFree.of_bodyS (code := cc) (maxLocals := maxL) (ret := ret) hy ?_ ?_
  · intro args s m h hn
    obtain ⟨meth, c, h1, h2, h3, h4, h5, h6, -, -⟩ := Cond.code_spec hn (atoms_spec (ws := ws) h _ (by rw [hw]; exact List.mem_cons_self))
    exact ⟨meth, c, h1, h2, h3, h4, h5, h6⟩
  · intro p e s m args below meth c s₁ B hml hP _
    have hh0 : s₁.heap = s.heap := by rw [B.state]; rfl
    have ht : ∀ x ∈ c.exceptionTable.toList, False := by
      obtain ⟨meth9, c9, h1, h2, -, -, -, -, h7, -⟩ := Cond.code_spec B.named (atoms_spec (ws := ws) B.pre _ (by rw [hw]; exact List.mem_cons_self))
      cases Option.some.inj (h1.symm.trans B.method)
      cases Option.some.inj (h2.symm.trans (Stand.of_body B).code)
      intro x hx
      rw [Array.isEmpty_iff.mp h7] at hx
      cases hx
    obtain ⟨t, a1, o, b1, b2, b3⟩ := body p e s m args below meth c s₁ B hml ht hP s₁ hh0 (Stand.of_body B)
    exact ⟨t, o, a1, b1, b2, b3⟩
/-- the table of a body with handlers -/
theorem vx_table {p : Program} {x y : MethodName} {S : Spec} {cc bytes : ByteArray} {maxL maxL' : Nat} {ret ret' : Option FieldType} {e : Env} {s s₁ : State} {m : MethodId} {args : Array Value} {below : List Frame} {meth : Method} {c : Code} {hh : List (Nat × Nat × Nat × Nat)}
    (B : BodyLoose p l y S cc maxL ret e s m args below meth c s₁) (h : (Cond.codeWith y bytes maxL' ret' hh).before args s = true) : c.exceptionTable.toList = tableOf hh := by
  obtain ⟨m9, meth9, c9, hn9, h1, h2, -, -, h6, -⟩ := Cond.codeWith_spec h
  cases Option.some.inj (hn9.symm.trans B.named)
  cases Option.some.inj (h1.symm.trans B.method)
  cases Option.some.inj (h2.symm.trans (Stand.of_body B).code)
  rw [← h6, table_eq]
end Bodies
end VXA
/-! ===== END ===== -/
/-! ===== BEGIN a static call of a method with an exception table ===== -/
section VXS
variable {p : Program} {l : Launch} {e : Env} {R : Room} {s : State} {m : MethodId} {args : Array Value} {below : List Frame} {meth : Method} {c : Code} {T : State} {H : Heap} {locs : List Loc} {cells slots : Nat}
abbrev vx_CSW (R : Room) (s : State) (args : Array Value) (own : String) (index : Nat) (y : MethodName) (bytes : ByteArray) (maxL : Nat) (ret : Option FieldType) (hh : List (Nat × Nat × Nat × Nat)) (ws : List Cond) (rm : Room) (mc ms n : Nat) : Prop :=
  (rm.cells = mc ∧ rm.slots = ms ∧ rm.frames + 1 ≤ R.frames ∧ 8 + (maxL + 11) + rm.locals ≤ R.locals ∧ (∀ w ∈ ws, ∀ (a' : Array Value) (U : State), s.WarmedH U.vm → w.before a' U = true) ∧ Cond.codeWith y bytes maxL ret hh ∈ ws) ∧
  (Cond.codeWith y bytes maxL ret hh).before args s = true ∧ (Cond.initialized y.cls).before args s = true ∧ (y.cls ≠ "java/lang/invoke/MethodHandle" ∧ y.cls ≠ "java/lang/invoke/VarHandle") ∧
  (∀ sig, parseMethodDescriptor y.desc = some sig → n = sig.parameters.length) ∧ (Cond.methodLink own index y).before args s = true ∧ (Cond.static y).before args s = true
theorem vx_cwSW {own : String} {index maxL mc ms : Nat} {y : MethodName} {bytes : ByteArray} {ret : Option FieldType} {hh : List (Nat × Nat × Nat × Nat)} {Ts ws ws' : List Cond} {rm : Room} (n : Nat) (ht : ∀ w ∈ Ts, w.before args s = true) (hT : GoodIn Ts (va_wsS own index y ws)) (hw : ws = Cond.codeWith y bytes maxL ret hh :: ws') (hrc : rm.cells = mc) (hrs : rm.slots = ms)
    (hd : y.cls ≠ "java/lang/invoke/MethodHandle" ∧ y.cls ≠ "java/lang/invoke/VarHandle" ∧ (parseMethodDescriptor y.desc).map (fun d => d.parameters.length) = some n) (hR : rm.frames + 1 ≤ R.frames ∧ 8 + (maxL + 11) + rm.locals ≤ R.locals) :
    vx_CSW R s args own index y bytes maxL ret hh ws rm mc ms n := by
  have ok : ∀ w ∈ va_wsS own index y ws, w.before args s = true := fun w h => ht w (hT w h).1
  have hG : GoodIn Ts ws := fun w h => hT w (by unfold va_wsS; exact List.mem_append_right _ h)
  have hc : Cond.codeWith y bytes maxL ret hh ∈ ws := by rw [hw]; exact List.mem_cons_self
  refine ⟨⟨hrc, hrs, hR.1, hR.2, pay_in ht hG, hc⟩, ht _ (hG _ hc).1, ok _ (by simp [va_wsS]), ⟨hd.1, hd.2.1⟩, fun sig h => ?_, ok _ (by simp [va_wsS]), ok _ (by simp [va_wsS])⟩
  have h2 := hd.2.2
  rw [h] at h2
  exact (Option.some.inj h2).symm
theorem vx_callSW (X : Stand p l e R s m args below meth c T locs cells slots) (hexec : p.tables.exec = Jvm.exec) {own : String} {index : Nat} {y : MethodName} {bytes : ByteArray} {maxL : Nat} {ret : Option FieldType} {hh : List (Nat × Nat × Nat × Nat)}
    (hown : s.vm.findClass own = some m.cls) (hlink : (Cond.methodLink own index y).before args s = true) (hstat : (Cond.static y).before args s = true) (hinit : (Cond.initialized y.cls).before args s = true)
    (hcode : (Cond.codeWith y bytes maxL ret hh).before args s = true) (hy : y.cls ≠ "java/lang/invoke/MethodHandle" ∧ y.cls ≠ "java/lang/invoke/VarHandle")
    {W9 : Nat} {Pre : Pt → Array Value → Prop} {Post : Pt → Array Value → Option Value → Pt → Prop} (hK : Back l R p e below s args y 3 W9 Pre Post)
    {g : JFrame} (hg : g.method = m) (hsize : g.locals.size = c.maxLocals) {argsL rest : List Value} (hlen : ∀ sig, parseMethodDescriptor y.desc = some sig → argsL.length = sig.parameters.length)
    (hstack : g.stack = argsL.reverse ++ rest) (hW : 2 * g.monitorRoom + (rest.map fun v => v.category).sum ≤ W9) (hdg : decode c.code g.pc = .ok (.invokestatic index, 3))
    (hpre : ∀ vm₁, s.WarmedH vm₁ → Pre ⟨T.setVm vm₁, locs, cells, slots⟩ argsL.toArray) :
    ∃ (v : Option Value) (vm₁ : Vm) (B : Pt), s.WarmedH vm₁ ∧ Stand p l e R s m args below meth c B.U B.locs B.cells B.slots ∧ Post ⟨T.setVm vm₁, locs, cells, slots⟩ argsL.toArray v B ∧
      ∀ target, Steps p.tables e below (B.U.setTop { g with pc := g.pc + 3, stack := v.toList ++ rest }) target → Steps p.tables e below (T.setTop g) target := by
  obtain ⟨mk, methM, cM, hnamed, hmethM, -, -, -, -, -, -, hsigM⟩ := Cond.codeWith_spec hcode
  have hstatic : methM.isStatic = true := Cond.static_spec hnamed hmethM hstat
  obtain ⟨kP, hkP, -⟩ := className_of_methodNamed hnamed
  have hinitP : kP.init = .initialized := Cond.initialized_spec (findClass_of_methodNamed hnamed) hkP hinit
  obtain ⟨vm₁, X₁, hstep₁⟩ := X.invokestatic hexec hown hlink hnamed hmethM hstatic hkP hinitP hy (g := g) hg (argsL := argsL) (rest := rest) (hlen _ hsigM) hstack hdg
  obtain ⟨v, B, X', hpost, hsteps⟩ := hK m meth c ⟨T.setVm vm₁, locs, cells, slots⟩ { g with stack := rest } (.invokestatic index) mk argsL.toArray X₁ hg hsize hdg hW (X₁.named hnamed) (hpre vm₁ X₁.warmed)
  exact ⟨v, vm₁, B, X₁.warmed, X', hpost, fun target h => hstep₁ _ fun acts => by rw [doInvoke_state]; exact hsteps.trans h⟩
theorem vx_runSW {y : MethodName} {bytes cc : ByteArray} {maxL nL mc ms n index : Nat} {ret : Option FieldType} {hh : List (Nat × Nat × Nat × Nat)} {ws : List Cond} {rm : Room} {Pc : Array Value → State → Prop} {Qc : Array Value → State → Outcome → State → Prop} {free : Addr → Prop} {Ts : List Cond} {own : String} {As rest : List Value} {g : JFrame}
    (S : CallFix p m c cc nL s args Ts own) (hM : Met l y ws rm Pc Qc mc ms free) (cw : vx_CSW R s args own index y bytes maxL ret hh ws rm mc ms n) (hp : PreS s H Pc As)
    (hg : g.method = m) (hn : As.length = n) (hsize : g.locals.size = nL) (hstack : g.stack = As.reverse ++ rest) (hW : 2 * g.monitorRoom + (rest.map fun v => v.category).sum ≤ 8) (hdg : decode cc g.pc = .ok (.invokestatic index, 3)) (hf : cells + mc ≤ R.cells ∧ slots + ms ≤ R.slots) :
    va_Run p l e R s m args below meth c H locs cells slots mc ms g rest (Qc As.toArray) (free) := by
  obtain ⟨⟨hrc, hrs, hfr, hlo, hws, hcw⟩, hcode, hini, hy, hlen, hl, hstt⟩ := cw
  have hK : Back l R p e below s args y 3 8 (PreOf R mc ms Pc) (PostOf Qc mc ms free) := va_backW (hh := hh) (bytes := bytes) (maxL := maxL) (ret := ret) hM hp.1 hrc hrs hfr hlo hws hcw (fun a' U hW => word_at hW (Or.inl (by first | rfl | simp [Cond.onTables, Cond.keeps, Cond.steady])) hini)
  obtain ⟨hx, hb, hml, ho, -⟩ := S
  intro T hT X
  obtain ⟨v, vm₁, ⟨U', l2, c2, s2⟩, hW₁, X', ⟨g', mk, t, L, e1, e2, hq, h1, hL, h2, h3⟩, st⟩ := vx_callSW X hx (hh := hh) (bytes := bytes) (maxL := maxL) (ret := ret) ho hl hstt hini hcode hy hK hg (hsize.trans hml.symm) (argsL := As) (rest := rest) (fun sig h => hn.trans (hlen sig h)) hstack hW (by rw [hb]; exact hdg)
    (fun vm₁ hW₁ => ⟨hf.1, hf.2, hp.2 (T.setVm vm₁) hT hW₁⟩)
  dsimp only [Pt.U, Pt.locs, Pt.cells, Pt.slots] at X' e1 e2 h1 h2 h3 st
  subst h1; subst h2; subst h3
  exact ⟨v, (T.setVm vm₁).calling g' mk As.toArray, t, U', L, hT, X', hL, e1, e2, hq, st⟩
/-- not caught here, past rows that name other classes: it goes on to the caller -/
theorem vx_outP {p : Program} {l : Launch} {e : Env} {R : Room} {s : State} {m : MethodId} {args : Array Value} {below : List Frame} {meth : Method} {c : Code} {H : Heap} {locs : List Loc} {cells slots : Nat} {free : Addr → Prop} {ls : Array Slot} {rest : List Value} {Qc : Array Value → State → Outcome → State → Prop} {XC : String → State → State → Prop}
    {pc : Nat} {own E : String} {ce : Cell} {q : Addr} {mc ms : Nat} (hown : s.vm.findClass own = some m.cls) (hlocks : meth.locks = false)
    (hpass : ∀ z ∈ c.exceptionTable.toList, covers z pc = false ∨ (z.catchType ≠ 0 ∧ ∃ nm : String, (Cond.classLink own z.catchType nm).before args s = true ∧ va_Nc E nm s)) (hcell : H[q]? = some ce) (hv : ce.vm = .none) (hcl : s.vm.findClass E = some ce.cls)
    (hx : ∀ t : State, t.heap = H → s.vm.Alike t.vm → XC E s t) (hf : ∀ z ∈ locs, free z.base) (hc : cells ≤ mc) (hs : slots ≤ ms) :
    vx_W p l e R s m args below meth c H locs cells slots (vx_MQ below Qc XC args s mc ms free) (F0 m pc ls rest) q := by
  intro T hT X
  have hpl : e.platform.magicAccessors = ({} : Platform).magicAccessors := by rw [X.admits.platform]
  obtain ⟨vm', hW', X', st⟩ := X.outThrough hlocks q (g := F0 m pc ls rest) rfl rfl rfl (cell := ce) (by rw [hT]; exact hcell) (by rw [hv]; rfl)
    (by obtain ⟨k9, h9, -⟩ := Vm.findClass_spec hcl; exact ⟨k9, h9⟩) (fun z hz => by
      rcases hpass z hz with h | ⟨hz0, nm, hl1, hn1⟩
      · exact Or.inl h
      · obtain ⟨c6, hc6, hcl6⟩ := Cond.classLink_spec hown hl1 e.platform hpl
        obtain ⟨a8, b8, h1, h2, h3⟩ := hn1
        cases Option.some.inj (h1.symm.trans hcl)
        cases Option.some.inj (h2.symm.trans hc6)
        exact Or.inr ⟨hz0, _, hcl6, h3⟩)
  obtain ⟨g₀, hfr⟩ := X'.frames_eq
  have hcell9 : ((T.setVm vm').setFrames (.throwing q :: below)).heap[q]? = some ce := by
    show T.heap[q]? = some ce
    rw [hT]; exact hcell
  have hend : Ended ((T.setVm vm').setFrames (.throwing q :: below)) below (.threw q) := State.frames_setFrames _ (State.cur_lt_of_frames hfr)
  refine ⟨(T.setVm vm').setFrames (.throwing q :: below), ?_, .threw q, X'.here.running, hend, Or.inr ⟨q, rfl, E, ce, locs, hx _ hT (X'.ends _).1.alike, hcell9, hv, hcl, (X'.ends _).1, (X'.ends _).2.mono hc hs, hf⟩⟩
  rw [X.pushThrowing_eq]
  exact st
/-- a thing of a world lies in the heap -/
theorem vx_lt {D : va_G} {cl : List vw_C} {ws : va_W} {H1 : Heap} (h : va_P D cl ws H1) {k : Nat} {q : Nat × va_E} (hk : ws[k]? = some q) : q.1 < H1.size := (h k q hk).lt
end VXS
/-! ===== END ===== -/
/-! ===== BEGIN methods with a table of their own: called by a name, returning or throwing ===== -/
section VXH
/-! vx_backW, vx_callVX, vx_callSX, vx_callVW, vx_runVW, vx_runVX, vx_runSX, vx_ofWH follow the same proofs as their sisters above (Free/Laws.lean, Shelf42/LK1.lean); vx_outP calls Shelf42/NT130.lean (outThrough). -/
section
variable {l : Launch} {R : Room} {p : Program} {e : Env} {below : List Frame} {s : State} {sargs : Array Value} {y : MethodName} {len W9 : Nat}
theorem vx_backW {ws : List Cond} {rm : Room} {Pc : Array Value → State → Prop} {Qc : Array Value → State → Outcome → State → Prop} {XC : String → State → State → Prop} {mc ms : Nat} {free : Addr → Prop} {bytes : ByteArray} {maxL : Nat} {ret : Option FieldType} {hh : List (Nat × Nat × Nat × Nat)}
    (hM : vx_Met l y ws rm Pc Qc XC mc ms free) (hblind : FrameBlind Pc) (hrc : rm.cells = mc) (hrs : rm.slots = ms)
    (hframes : rm.frames + 1 ≤ R.frames) (hlocals : W9 + (maxL + 11) + rm.locals ≤ R.locals)
    (hws : ∀ w ∈ ws, ∀ a' U, s.WarmedH U.vm → w.before a' U = true) (hcode : Cond.codeWith y bytes maxL ret hh ∈ ws) (hinit : ∀ a' U, s.WarmedH U.vm → (Cond.initialized y.cls).before a' U = true) :
    vx_Back l R p e below s sargs y len W9 (PreOf R mc ms Pc) (PostOf Qc mc ms free) (vx_Post XC mc ms free) := by
  intro m meth c A g ig mk a X hg hsize hdg hW hn hp
  have h1 : (headSpec ws rm).pre.before a A.U = true := atoms_intro fun w hw => hws w hw _ _ X.warmed
  have h2 : (Cond.codeWith y bytes maxL ret hh).before a A.U = true := hws _ hcode _ _ X.warmed
  have h3 : (Cond.initialized y.cls).before a A.U = true := hinit _ _ X.warmed
  have h4 : A.cells + (headSpec ws rm).room.cells ≤ R.cells := by rw [show (headSpec ws rm).room.cells = mc from hrc]; exact hp.1
  have h5 : A.slots + (headSpec ws rm).room.slots ≤ R.slots := by rw [show (headSpec ws rm).room.slots = ms from hrs]; exact hp.2.1
  have hPc : Pc a (A.U.calling g mk a) := hblind _ _ _ _ hp.2.2
  obtain ⟨U, Ls, c0, s0⟩ := A
  dsimp only [Pt.U, Pt.locs, Pt.cells, Pt.slots] at h1 h2 h3 h4 h5 X hn hPc ⊢
  obtain ⟨m9, methY, cY, hn9, hmY, hcY, -, hlY, -⟩ := Cond.codeWith_spec h2
  cases Option.some.inj (hn9.symm.trans hn)
  obtain ⟨kY, hkY, -⟩ := className_of_methodNamed hn
  have hinitY : kY.init = .initialized := Cond.initialized_spec (findClass_of_methodNamed hn) hkY h3
  have h : At U g.method c below := by rw [hg]; exact X.here
  have hlocals9 : W9 + (maxL + 11) + (headSpec ws rm).room.locals ≤ R.locals := hlocals
  have happ : (headSpec ws rm).appliesLoose y e.platform (U.calling g mk a) = true :=
    Spec.appliesLoose_calling (g := g) h hdg hn hkY hinitY
      (X.room_calling (g := g) (R' := (headSpec ws rm).room) hsize hmY hcY hframes (by rw [hlY]; omega) h4 h5) h1
  obtain ⟨mid, hmid⟩ := h.above
  have hfr : (U.setTop g).frames = (.java g :: mid) ++ below := by rw [State.frames_setTop' g h.top, hmid]; rfl
  obtain ⟨o, s₂, hsteps, -, hend, hq⟩ := Steps.callFree hM p X.admits X.cas X.clock (acts := []) hfr happ hPc trivial
  have hq' : vx_Q Qc XC mc ms free a (U.calling g mk a) o s₂ := hq
  rw [State.frames_setTop' g h.top] at hend
  obtain ⟨g₀, hg0⟩ := Option.isSome_iff_exists.mp h.top
  obtain ⟨r, hr⟩ := State.topJava?_eq_some.mp hg0
  have hr' : (({ U with heap := s₂.heap, slotsUsed := s₂.slotsUsed } : State).setVm s₂.vm).frames = .java g₀ :: r := hr
  rcases hq' with ⟨hqc, L, hfe, hL⟩ | ⟨q, rfl, E, ce, L, hx, hce, hcv, hcl, hW₂, hsm, hL⟩
  · obtain ⟨⟨v, rfl⟩, hW₂, e2, q2, q3, q4, q5, q6⟩ := id hfe
    have e3 : s₂ = ({ (U.calling g mk a).setFrames s₂.frames with heap := s₂.heap, slotsUsed := s₂.slotsUsed } : State).setVm s₂.vm := by
      have : s₂ = ({ s₂ with vm := (U.calling g mk a).vm } : State).setVm s₂.vm := rfl
      rw [e2] at this
      exact this
    obtain ⟨c₂, i₂, len₂, hc₂, hd₂, hf₂⟩ := hend
    have hW' : U.WarmedH s₂.vm := hW₂
    have hcc : c₂ = c := by
      have h1 : s₂.code? g.method = U.code? g.method := by
        rw [State.code?_eq, State.code?_eq, hW'.alike.method?]
      exact Option.some.inj (hc₂.symm.trans (h1.trans h.code))
    subst hcc
    have hlen : len₂ = len := by rw [hdg] at hd₂; cases hd₂; rfl
    subst hlen
    have hs₂ : s₂ = (({ U with heap := s₂.heap, slotsUsed := s₂.slotsUsed } : State).setVm s₂.vm).setTop { g with pc := g.pc + len₂, stack := v.toList ++ g.stack } := by
      refine e3.trans ?_
      rw [hf₂, State.calling_eq h.top, State.setFrames_setFrames, State.setTop_of_frames _ hr', hr]
      rfl
    have hsame : U.sameButNew ({ U with heap := s₂.heap, slotsUsed := s₂.slotsUsed } : State) L mc ms := by
      refine ⟨?_, q2, q3, q4, q5, q6⟩
      obtain ⟨t, ht, -⟩ := State.frames_cons hr
      show ({ U with heap := s₂.heap, slotsUsed := s₂.slotsUsed } : State) = { U.setFrames U.frames with heap := s₂.heap, slotsUsed := s₂.slotsUsed }
      rw [State.setFrames_self ht]
    subst hg
    refine Or.inl ⟨v, ⟨(({ U with heap := s₂.heap, slotsUsed := s₂.slotsUsed } : State).setVm s₂.vm), Ls ++ L, c0 + mc, s0 + ms⟩,
      ⟨X.admits, X.cas, X.clock, X.frames, X.room, X.hears, X.method, X.code, (X.here.setHeapUsed s₂.heap s₂.slotsUsed).setVm hW'.alike, X.tail, State.WarmedH.trans X.warmed hW', X.limits, X.bytes, X.same.trans (hsame.setVm s.vm)⟩,
      ⟨g, mk, s₂, L, rfl, rfl, hqc, rfl, hL, rfl, rfl⟩, ?_⟩
    show Steps p.tables e below _ ((({ U with heap := s₂.heap, slotsUsed := s₂.slotsUsed } : State).setVm s₂.vm).setTop { g with pc := g.pc + len₂, stack := v.toList ++ g.stack })
    rw [← hs₂]
    exact hsteps
  · obtain ⟨e2, q2, q3, q4, q5, q6⟩ := id hsm
    have e3 : s₂ = ({ (U.calling g mk a).setFrames s₂.frames with heap := s₂.heap, slotsUsed := s₂.slotsUsed } : State).setVm s₂.vm := by
      have : s₂ = ({ s₂ with vm := (U.calling g mk a).vm } : State).setVm s₂.vm := rfl
      rw [e2] at this
      exact this
    have hf₂ : s₂.frames = .throwing q :: .java g :: U.frames.tail := hend
    have hW' : U.WarmedH s₂.vm := hW₂
    have hs₂ : s₂ = ((({ U with heap := s₂.heap, slotsUsed := s₂.slotsUsed } : State).setVm s₂.vm).setTop g).pushFrame (.throwing q) := by
      refine e3.trans ?_
      rw [hf₂, State.calling_eq h.top, State.setFrames_setFrames, State.pushFrame, State.frames_setTop _ hr', State.setTop_of_frames _ hr', State.setFrames_setFrames, hr]
      rfl
    have hsame : U.sameButNew ({ U with heap := s₂.heap, slotsUsed := s₂.slotsUsed } : State) L mc ms := by
      refine ⟨?_, q2, q3, q4, q5, q6⟩
      obtain ⟨t, ht, -⟩ := State.frames_cons hr
      show ({ U with heap := s₂.heap, slotsUsed := s₂.slotsUsed } : State) = { U.setFrames U.frames with heap := s₂.heap, slotsUsed := s₂.slotsUsed }
      rw [State.setFrames_self ht]
    subst hg
    refine Or.inr ⟨q, ⟨(({ U with heap := s₂.heap, slotsUsed := s₂.slotsUsed } : State).setVm s₂.vm), Ls ++ L, c0 + mc, s0 + ms⟩,
      ⟨X.admits, X.cas, X.clock, X.frames, X.room, X.hears, X.method, X.code, (X.here.setHeapUsed s₂.heap s₂.slotsUsed).setVm hW'.alike, X.tail, State.WarmedH.trans X.warmed hW', X.limits, X.bytes, X.same.trans (hsame.setVm s.vm)⟩,
      ⟨g, mk, s₂, L, E, ce, rfl, rfl, hx, hce, hcv, hcl, rfl, hL, rfl, rfl⟩, ?_⟩
    show Steps p.tables e below _ (((({ U with heap := s₂.heap, slotsUsed := s₂.slotsUsed } : State).setVm s₂.vm).setTop g).pushFrame (.throwing q))
    rw [← hs₂]
    exact hsteps
end
variable {p : Program} {l : Launch} {e : Env} {R : Room} {s : State} {m : MethodId} {args : Array Value} {below : List Frame} {meth : Method} {c : Code} {T : State} {H : Heap} {locs : List Loc} {cells slots : Nat}
theorem vx_callVX (X : Stand p l e R s m args below meth c T locs cells slots) (hexec : p.tables.exec = Jvm.exec) {own C : String} {index : Nat} {y : MethodName} {bytes : ByteArray} {maxL : Nat} {ret : Option FieldType} {hh : List (Nat × Nat × Nat × Nat)}
    (hown : s.vm.findClass own = some m.cls) (hlink : (Cond.methodLink own index y).before args s = true) (hinst : (Cond.instanceMethod y).before args s = true) (hsel : (Cond.selects C y y).before args s = true)
    (hcode : (Cond.codeWith y bytes maxL ret hh).before args s = true) (hy : y.cls ≠ "java/lang/invoke/MethodHandle" ∧ y.cls ≠ "java/lang/invoke/VarHandle")
    {W9 : Nat} {Pre : Pt → Array Value → Prop} {Post : Pt → Array Value → Option Value → Pt → Prop} {PostX : Pt → Array Value → Addr → Pt → Prop} (hK : vx_Back l R p e below s args y 3 W9 Pre Post PostX)
    {b : Addr} {cellB : Cell} (hcell : T.heap[b]? = some cellB) (hobj : cellB.vm.isStatics = false) (hcls : s.vm.findClass C = some cellB.cls)
    {g : JFrame} (hg : g.method = m) (hsize : g.locals.size = c.maxLocals) {argsL rest : List Value} (hlen : ∀ sig, parseMethodDescriptor y.desc = some sig → argsL.length = sig.parameters.length)
    (hstack : g.stack = argsL.reverse ++ .ref b :: rest) (hW : 2 * g.monitorRoom + (rest.map fun v => v.category).sum ≤ W9) (hdg : decode c.code g.pc = .ok (.invokevirtual index, 3))
    (hpre : ∀ vm₁, s.WarmedH vm₁ → Pre ⟨T.setVm vm₁, locs, cells, slots⟩ (Value.ref b :: argsL).toArray) :
    (∃ (v : Option Value) (vm₁ : Vm) (B : Pt), s.WarmedH vm₁ ∧ Stand p l e R s m args below meth c B.U B.locs B.cells B.slots ∧ Post ⟨T.setVm vm₁, locs, cells, slots⟩ (Value.ref b :: argsL).toArray v B ∧
      ∀ target, Steps p.tables e below (B.U.setTop { g with pc := g.pc + 3, stack := v.toList ++ rest }) target → Steps p.tables e below (T.setTop g) target) ∨
    (∃ (q : Addr) (vm₁ : Vm) (B : Pt), s.WarmedH vm₁ ∧ Stand p l e R s m args below meth c B.U B.locs B.cells B.slots ∧ PostX ⟨T.setVm vm₁, locs, cells, slots⟩ (Value.ref b :: argsL).toArray q B ∧
      Steps p.tables e below (T.setTop g) ((B.U.setTop { g with stack := rest }).pushFrame (.throwing q))) := by
  obtain ⟨mk, methM, hnamed, hmethM, hstM, habM⟩ := Cond.instanceMethod_spec hinst
  obtain ⟨m8, methM', cM, hn8, hmethM', -, -, -, -, -, -, hsigM⟩ := Cond.codeWith_spec hcode
  cases Option.some.inj (hn8.symm.trans hnamed)
  cases hmethM.symm.trans hmethM'
  obtain ⟨c2, r2, m2, q1, q2, q3, q4, kP, hkP, hkPi⟩ := Cond.selects_spec hsel
  cases hcls.symm.trans q1
  cases (State.methodFound?_of_named hnamed hy).symm.trans q2
  cases hnamed.symm.trans q3
  have hselP : selectMethod e.platform s.vm cellB.cls mk = .method mk := by rw [Launch.admits_selectMethod X.admits]; exact q4
  obtain ⟨vm₁, X₁, hstep₁⟩ := X.invokevirtual hexec hown hlink hnamed hmethM hstM hkP hkPi hy (a := b) (cell := cellB) hcell
    (fun z h => by rw [h] at hobj; cases hobj) hselP hmethM habM hkP hkPi (g := g) hg (argsL := argsL) (rest := rest) (hlen _ hsigM) hstack hdg
  rcases hK m meth c ⟨T.setVm vm₁, locs, cells, slots⟩ { g with stack := rest } (.invokevirtual index) mk (Value.ref b :: argsL).toArray X₁ hg hsize hdg hW (X₁.named hnamed) (hpre vm₁ X₁.warmed) with ⟨v, B, X', hpost, hsteps⟩ | ⟨q, B, X', hpost, hsteps⟩
  · exact Or.inl ⟨v, vm₁, B, X₁.warmed, X', hpost, fun target h => hstep₁ _ fun acts => by rw [doInvoke_state]; exact hsteps.trans h⟩
  · exact Or.inr ⟨q, vm₁, B, X₁.warmed, X', hpost, hstep₁ _ fun acts => by rw [doInvoke_state]; exact hsteps⟩
theorem vx_callSX (X : Stand p l e R s m args below meth c T locs cells slots) (hexec : p.tables.exec = Jvm.exec) {own : String} {index : Nat} {y : MethodName} {bytes : ByteArray} {maxL : Nat} {ret : Option FieldType} {hh : List (Nat × Nat × Nat × Nat)}
    (hown : s.vm.findClass own = some m.cls) (hlink : (Cond.methodLink own index y).before args s = true) (hstat : (Cond.static y).before args s = true) (hinit : (Cond.initialized y.cls).before args s = true)
    (hcode : (Cond.codeWith y bytes maxL ret hh).before args s = true) (hy : y.cls ≠ "java/lang/invoke/MethodHandle" ∧ y.cls ≠ "java/lang/invoke/VarHandle")
    {W9 : Nat} {Pre : Pt → Array Value → Prop} {Post : Pt → Array Value → Option Value → Pt → Prop} {PostX : Pt → Array Value → Addr → Pt → Prop} (hK : vx_Back l R p e below s args y 3 W9 Pre Post PostX)
    {g : JFrame} (hg : g.method = m) (hsize : g.locals.size = c.maxLocals) {argsL rest : List Value} (hlen : ∀ sig, parseMethodDescriptor y.desc = some sig → argsL.length = sig.parameters.length)
    (hstack : g.stack = argsL.reverse ++ rest) (hW : 2 * g.monitorRoom + (rest.map fun v => v.category).sum ≤ W9) (hdg : decode c.code g.pc = .ok (.invokestatic index, 3))
    (hpre : ∀ vm₁, s.WarmedH vm₁ → Pre ⟨T.setVm vm₁, locs, cells, slots⟩ argsL.toArray) :
    (∃ (v : Option Value) (vm₁ : Vm) (B : Pt), s.WarmedH vm₁ ∧ Stand p l e R s m args below meth c B.U B.locs B.cells B.slots ∧ Post ⟨T.setVm vm₁, locs, cells, slots⟩ argsL.toArray v B ∧
      ∀ target, Steps p.tables e below (B.U.setTop { g with pc := g.pc + 3, stack := v.toList ++ rest }) target → Steps p.tables e below (T.setTop g) target) ∨
    (∃ (q : Addr) (vm₁ : Vm) (B : Pt), s.WarmedH vm₁ ∧ Stand p l e R s m args below meth c B.U B.locs B.cells B.slots ∧ PostX ⟨T.setVm vm₁, locs, cells, slots⟩ argsL.toArray q B ∧
      Steps p.tables e below (T.setTop g) ((B.U.setTop { g with stack := rest }).pushFrame (.throwing q))) := by
  obtain ⟨mk, methM, cM, hnamed, hmethM, -, -, -, -, -, -, hsigM⟩ := Cond.codeWith_spec hcode
  have hstatic : methM.isStatic = true := Cond.static_spec hnamed hmethM hstat
  obtain ⟨kP, hkP, -⟩ := className_of_methodNamed hnamed
  have hinitP : kP.init = .initialized := Cond.initialized_spec (findClass_of_methodNamed hnamed) hkP hinit
  obtain ⟨vm₁, X₁, hstep₁⟩ := X.invokestatic hexec hown hlink hnamed hmethM hstatic hkP hinitP hy (g := g) hg (argsL := argsL) (rest := rest) (hlen _ hsigM) hstack hdg
  rcases hK m meth c ⟨T.setVm vm₁, locs, cells, slots⟩ { g with stack := rest } (.invokestatic index) mk argsL.toArray X₁ hg hsize hdg hW (X₁.named hnamed) (hpre vm₁ X₁.warmed) with ⟨v, B, X', hpost, hsteps⟩ | ⟨q, B, X', hpost, hsteps⟩
  · exact Or.inl ⟨v, vm₁, B, X₁.warmed, X', hpost, fun target h => hstep₁ _ fun acts => by rw [doInvoke_state]; exact hsteps.trans h⟩
  · exact Or.inr ⟨q, vm₁, B, X₁.warmed, X', hpost, hstep₁ _ fun acts => by rw [doInvoke_state]; exact hsteps⟩
theorem vx_callVW (X : Stand p l e R s m args below meth c T locs cells slots) (hexec : p.tables.exec = Jvm.exec) {own C : String} {index : Nat} {y : MethodName} {bytes : ByteArray} {maxL : Nat} {ret : Option FieldType} {hh : List (Nat × Nat × Nat × Nat)}
    (hown : s.vm.findClass own = some m.cls) (hlink : (Cond.methodLink own index y).before args s = true) (hinst : (Cond.instanceMethod y).before args s = true) (hsel : (Cond.selects C y y).before args s = true)
    (hcode : (Cond.codeWith y bytes maxL ret hh).before args s = true) (hy : y.cls ≠ "java/lang/invoke/MethodHandle" ∧ y.cls ≠ "java/lang/invoke/VarHandle")
    {W9 : Nat} {Pre : Pt → Array Value → Prop} {Post : Pt → Array Value → Option Value → Pt → Prop} (hK : Back l R p e below s args y 3 W9 Pre Post)
    {b : Addr} {cellB : Cell} (hcell : T.heap[b]? = some cellB) (hobj : cellB.vm.isStatics = false) (hcls : s.vm.findClass C = some cellB.cls)
    {g : JFrame} (hg : g.method = m) (hsize : g.locals.size = c.maxLocals) {argsL rest : List Value} (hlen : ∀ sig, parseMethodDescriptor y.desc = some sig → argsL.length = sig.parameters.length)
    (hstack : g.stack = argsL.reverse ++ .ref b :: rest) (hW : 2 * g.monitorRoom + (rest.map fun v => v.category).sum ≤ W9) (hdg : decode c.code g.pc = .ok (.invokevirtual index, 3))
    (hpre : ∀ vm₁, s.WarmedH vm₁ → Pre ⟨T.setVm vm₁, locs, cells, slots⟩ (Value.ref b :: argsL).toArray) :
    ∃ (v : Option Value) (vm₁ : Vm) (B : Pt), s.WarmedH vm₁ ∧ Stand p l e R s m args below meth c B.U B.locs B.cells B.slots ∧ Post ⟨T.setVm vm₁, locs, cells, slots⟩ (Value.ref b :: argsL).toArray v B ∧
      ∀ target, Steps p.tables e below (B.U.setTop { g with pc := g.pc + 3, stack := v.toList ++ rest }) target → Steps p.tables e below (T.setTop g) target := by
  obtain ⟨mk, methM, hnamed, hmethM, hstM, habM⟩ := Cond.instanceMethod_spec hinst
  obtain ⟨m8, methM', cM, hn8, hmethM', -, -, -, -, -, -, hsigM⟩ := Cond.codeWith_spec hcode
  cases Option.some.inj (hn8.symm.trans hnamed)
  cases hmethM.symm.trans hmethM'
  obtain ⟨c2, r2, m2, q1, q2, q3, q4, kP, hkP, hkPi⟩ := Cond.selects_spec hsel
  cases hcls.symm.trans q1
  cases (State.methodFound?_of_named hnamed hy).symm.trans q2
  cases hnamed.symm.trans q3
  have hselP : selectMethod e.platform s.vm cellB.cls mk = .method mk := by rw [Launch.admits_selectMethod X.admits]; exact q4
  obtain ⟨vm₁, X₁, hstep₁⟩ := X.invokevirtual hexec hown hlink hnamed hmethM hstM hkP hkPi hy (a := b) (cell := cellB) hcell
    (fun z h => by rw [h] at hobj; cases hobj) hselP hmethM habM hkP hkPi (g := g) hg (argsL := argsL) (rest := rest) (hlen _ hsigM) hstack hdg
  obtain ⟨v, B, X', hpost, hsteps⟩ := hK m meth c ⟨T.setVm vm₁, locs, cells, slots⟩ { g with stack := rest } (.invokevirtual index) mk (Value.ref b :: argsL).toArray X₁ hg hsize hdg hW (X₁.named hnamed) (hpre vm₁ X₁.warmed)
  exact ⟨v, vm₁, B, X₁.warmed, X', hpost, fun target h => hstep₁ _ fun acts => by rw [doInvoke_state]; exact hsteps.trans h⟩
abbrev vx_CVW (R : Room) (s : State) (args : Array Value) (own C : String) (index : Nat) (y : MethodName) (bytes : ByteArray) (maxL : Nat) (ret : Option FieldType) (hh : List (Nat × Nat × Nat × Nat)) (ws : List Cond) (rm : Room) (mc ms n : Nat) : Prop :=
  (rm.cells = mc ∧ rm.slots = ms ∧ rm.frames + 1 ≤ R.frames ∧ 8 + (maxL + 11) + rm.locals ≤ R.locals ∧ (∀ w ∈ ws, ∀ (a' : Array Value) (U : State), s.WarmedH U.vm → w.before a' U = true) ∧ Cond.codeWith y bytes maxL ret hh ∈ ws) ∧
  (Cond.codeWith y bytes maxL ret hh).before args s = true ∧ (Cond.initialized y.cls).before args s = true ∧ (y.cls ≠ "java/lang/invoke/MethodHandle" ∧ y.cls ≠ "java/lang/invoke/VarHandle") ∧
  (∀ sig, parseMethodDescriptor y.desc = some sig → n = sig.parameters.length) ∧ (Cond.methodLink own index y).before args s = true ∧ (Cond.instanceMethod y).before args s = true ∧ (Cond.selects C y y).before args s = true
theorem vx_cwVW {own C : String} {index maxL mc ms : Nat} {y : MethodName} {bytes : ByteArray} {ret : Option FieldType} {hh : List (Nat × Nat × Nat × Nat)} {Ts ws ws' : List Cond} {rm : Room} (n : Nat) (ht : ∀ w ∈ Ts, w.before args s = true) (hT : GoodIn Ts (wsV own index C y ws)) (hw : ws = Cond.codeWith y bytes maxL ret hh :: ws') (hrc : rm.cells = mc) (hrs : rm.slots = ms)
    (hd : y.cls = C ∧ y.cls ≠ "java/lang/invoke/MethodHandle" ∧ y.cls ≠ "java/lang/invoke/VarHandle" ∧ (parseMethodDescriptor y.desc).map (fun d => d.parameters.length) = some n) (hR : rm.frames + 1 ≤ R.frames ∧ 8 + (maxL + 11) + rm.locals ≤ R.locals) :
    vx_CVW R s args own C index y bytes maxL ret hh ws rm mc ms n := by
  obtain ⟨hC, hd⟩ := hd
  subst hC
  have ok : ∀ w ∈ wsV own index y.cls y ws, w.before args s = true := fun w h => ht w (hT w h).1
  have hG : GoodIn Ts ws := fun w h => hT w (by unfold wsV; exact List.mem_append_right _ h)
  have hc : Cond.codeWith y bytes maxL ret hh ∈ ws := by rw [hw]; exact List.mem_cons_self
  refine ⟨⟨hrc, hrs, hR.1, hR.2, pay_in ht hG, hc⟩, ht _ (hG _ hc).1, ok _ (by simp [wsV]), ⟨hd.1, hd.2.1⟩, fun sig h => ?_, ok _ (by simp [wsV]), ok _ (by simp [wsV]), ok _ (by simp [wsV])⟩
  have h2 := hd.2.2
  rw [h] at h2
  exact (Option.some.inj h2).symm
theorem vx_runVW {y : MethodName} {bytes cc : ByteArray} {maxL nL mc ms n index : Nat} {ret : Option FieldType} {hh : List (Nat × Nat × Nat × Nat)} {ws : List Cond} {rm : Room} {Pc : Array Value → State → Prop} {Qc : Array Value → State → Outcome → State → Prop} {free : Addr → Prop} {Ts : List Cond} {own C : String} {b : Addr} {As rest : List Value} {g : JFrame}
    (S : CallFix p m c cc nL s args Ts own) (hM : Met l y ws rm Pc Qc mc ms free) (cw : vx_CVW R s args own C index y bytes maxL ret hh ws rm mc ms n) (hp : PreV s H C b Pc As)
    (hg : g.method = m) (hn : As.length = n) (hsize : g.locals.size = nL) (hstack : g.stack = As.reverse ++ .ref b :: rest) (hW : 2 * g.monitorRoom + (rest.map fun v => v.category).sum ≤ 8) (hdg : decode cc g.pc = .ok (.invokevirtual index, 3)) (hf : cells + mc ≤ R.cells ∧ slots + ms ≤ R.slots) :
    va_Run p l e R s m args below meth c H locs cells slots mc ms g rest (Qc (Value.ref b :: As).toArray) free := by
  obtain ⟨⟨hrc, hrs, hfr, hlo, hws, hcw⟩, hcode, hini, hy, hlen, hl, hin, hse⟩ := cw
  have hK : Back l R p e below s args y 3 8 (PreOf R mc ms Pc) (PostOf Qc mc ms free) := va_backW (hh := hh) (bytes := bytes) (maxL := maxL) (ret := ret) hM hp.1 hrc hrs hfr hlo hws hcw (fun a' U hW => word_at hW (Or.inl (by first | rfl | simp [Cond.onTables, Cond.keeps, Cond.steady])) hini)
  obtain ⟨hx, hb, hml, ho, -⟩ := S
  obtain ⟨-, ⟨cellB, hcB, hoB, hclB⟩, hPc⟩ := hp
  intro T hT X
  obtain ⟨v, vm₁, ⟨U', l2, c2, s2⟩, hW₁, X', ⟨g', mk, t, L, e1, e2, hq, h1, hL, h2, h3⟩, st⟩ := vx_callVW X hx (C := C) (hh := hh) (bytes := bytes) (maxL := maxL) (ret := ret) ho hl hin hse hcode hy hK (by rw [hT]; exact hcB) hoB hclB hg (hsize.trans hml.symm) (argsL := As) (rest := rest) (fun sig h => hn.trans (hlen sig h)) hstack hW (by rw [hb]; exact hdg)
    (fun vm₁ hW₁ => ⟨hf.1, hf.2, hPc (T.setVm vm₁) hT hW₁⟩)
  dsimp only [Pt.U, Pt.locs, Pt.cells, Pt.slots] at X' e1 e2 h1 h2 h3 st
  subst h1; subst h2; subst h3
  exact ⟨v, (T.setVm vm₁).calling g' mk (Value.ref b :: As).toArray, t, U', L, hT, X', hL, e1, e2, hq, st⟩
section
variable {y : MethodName} {bytes cc : ByteArray} {maxL nL mc ms n index : Nat} {ret : Option FieldType} {ws : List Cond} {rm : Room} {Pc : Array Value → State → Prop} {Qc : Array Value → State → Outcome → State → Prop} {XC : String → State → State → Prop} {free : Addr → Prop} {Ts : List Cond} {own C : String} {b : Addr} {As rest : List Value} {g : JFrame}
theorem vx_runVX {hh : List (Nat × Nat × Nat × Nat)} (S : CallFix p m c cc nL s args Ts own) (hM : vx_Met l y ws rm Pc Qc XC mc ms free) (cw : vx_CVW R s args own C index y bytes maxL ret hh ws rm mc ms n) (hp : PreV s H C b Pc As)
    (hg : g.method = m) (hn : As.length = n) (hsize : g.locals.size = nL) (hstack : g.stack = As.reverse ++ .ref b :: rest) (hW : 2 * g.monitorRoom + (rest.map fun v => v.category).sum ≤ 8) (hdg : decode cc g.pc = .ok (.invokevirtual index, 3)) (hf : cells + mc ≤ R.cells ∧ slots + ms ≤ R.slots) :
    vx_Run p l e R s m args below meth c H locs cells slots mc ms g rest (Qc (Value.ref b :: As).toArray) XC free := by
  obtain ⟨⟨hrc, hrs, hfr, hlo, hws, hcw⟩, hcode, hini, hy, hlen, hl, hin, hse⟩ := cw
  have hK : vx_Back l R p e below s args y 3 8 (PreOf R mc ms Pc) (PostOf Qc mc ms free) (vx_Post XC mc ms free) := vx_backW (hh := hh) (bytes := bytes) (maxL := maxL) (ret := ret) hM hp.1 hrc hrs hfr hlo hws hcw (fun a' U hW => word_at hW (Or.inl (by first | rfl | simp [Cond.onTables, Cond.keeps, Cond.steady])) hini)
  obtain ⟨hx, hb, hml, ho, -⟩ := S
  obtain ⟨-, ⟨cellB, hcB, hoB, hclB⟩, hPc⟩ := hp
  intro T hT X
  rcases vx_callVX X hx (C := C) (hh := hh) (bytes := bytes) (maxL := maxL) (ret := ret) ho hl hin hse hcode hy hK (by rw [hT]; exact hcB) hoB hclB hg (hsize.trans hml.symm) (argsL := As) (rest := rest) (fun sig h => hn.trans (hlen sig h)) hstack hW (by rw [hb]; exact hdg)
    (fun vm₁ hW₁ => ⟨hf.1, hf.2, hPc (T.setVm vm₁) hT hW₁⟩) with ⟨v, vm₁, ⟨U', l2, c2, s2⟩, hW₁, X', ⟨g', mk, t, L, e1, e2, hq, h1, hL, h2, h3⟩, st⟩ | ⟨q, vm₁, ⟨U', l2, c2, s2⟩, hW₁, X', ⟨g', mk, t, L, E, ce, e1, e2, hq, hce, hcv, hcl, h1, hL, h2, h3⟩, st⟩
  · dsimp only [Pt.U, Pt.locs, Pt.cells, Pt.slots] at X' e1 e2 h1 h2 h3 st
    subst h1; subst h2; subst h3
    exact Or.inl ⟨v, (T.setVm vm₁).calling g' mk (Value.ref b :: As).toArray, t, U', L, hT, X', hL, e1, e2, hq, st⟩
  · dsimp only [Pt.U, Pt.locs, Pt.cells, Pt.slots] at X' e1 e2 h1 h2 h3 st hcl
    subst h1; subst h2; subst h3
    exact Or.inr ⟨q, (T.setVm vm₁).calling g' mk (Value.ref b :: As).toArray, t, U', L, E, ce, hT, X', hL, e1, e2, hq, hce, hcv, vx_cls hW₁ hcl, st⟩
theorem vx_runSX {hh : List (Nat × Nat × Nat × Nat)} (S : CallFix p m c cc nL s args Ts own) (hM : vx_Met l y ws rm Pc Qc XC mc ms free) (cw : vx_CSW R s args own index y bytes maxL ret hh ws rm mc ms n) (hp : PreS s H Pc As)
    (hg : g.method = m) (hn : As.length = n) (hsize : g.locals.size = nL) (hstack : g.stack = As.reverse ++ rest) (hW : 2 * g.monitorRoom + (rest.map fun v => v.category).sum ≤ 8) (hdg : decode cc g.pc = .ok (.invokestatic index, 3)) (hf : cells + mc ≤ R.cells ∧ slots + ms ≤ R.slots) :
    vx_Run p l e R s m args below meth c H locs cells slots mc ms g rest (Qc As.toArray) XC free := by
  obtain ⟨⟨hrc, hrs, hfr, hlo, hws, hcw⟩, hcode, hini, hy, hlen, hl, hstt⟩ := cw
  have hK : vx_Back l R p e below s args y 3 8 (PreOf R mc ms Pc) (PostOf Qc mc ms free) (vx_Post XC mc ms free) := vx_backW (hh := hh) (bytes := bytes) (maxL := maxL) (ret := ret) hM hp.1 hrc hrs hfr hlo hws hcw (fun a' U hW => word_at hW (Or.inl (by first | rfl | simp [Cond.onTables, Cond.keeps, Cond.steady])) hini)
  obtain ⟨hx, hb, hml, ho, -⟩ := S
  intro T hT X
  rcases vx_callSX X hx (hh := hh) (bytes := bytes) (maxL := maxL) (ret := ret) ho hl hstt hini hcode hy hK hg (hsize.trans hml.symm) (argsL := As) (rest := rest) (fun sig h => hn.trans (hlen sig h)) hstack hW (by rw [hb]; exact hdg)
    (fun vm₁ hW₁ => ⟨hf.1, hf.2, hp.2 (T.setVm vm₁) hT hW₁⟩) with ⟨v, vm₁, ⟨U', l2, c2, s2⟩, hW₁, X', ⟨g', mk, t, L, e1, e2, hq, h1, hL, h2, h3⟩, st⟩ | ⟨q, vm₁, ⟨U', l2, c2, s2⟩, hW₁, X', ⟨g', mk, t, L, E, ce, e1, e2, hq, hce, hcv, hcl, h1, hL, h2, h3⟩, st⟩
  · dsimp only [Pt.U, Pt.locs, Pt.cells, Pt.slots] at X' e1 e2 h1 h2 h3 st
    subst h1; subst h2; subst h3
    exact Or.inl ⟨v, (T.setVm vm₁).calling g' mk As.toArray, t, U', L, hT, X', hL, e1, e2, hq, st⟩
  · dsimp only [Pt.U, Pt.locs, Pt.cells, Pt.slots] at X' e1 e2 h1 h2 h3 st hcl
    subst h1; subst h2; subst h3
    exact Or.inr ⟨q, (T.setVm vm₁).calling g' mk As.toArray, t, U', L, E, ce, hT, X', hL, e1, e2, hq, hce, hcv, vx_cls hW₁ hcl, st⟩
end
end VXH
theorem vx_ofWH {l : Launch} {y : MethodName} {ws ws' : List Cond} {rm : Room} {Pc : Array Value → State → Prop} {Qc : Array Value → State → Outcome → State → Prop} {XC : String → State → State → Prop} {mc ms : Nat} {free : Addr → Prop} {cc : ByteArray} {maxL : Nat} {ret : Option FieldType} {hh : List (Nat × Nat × Nat × Nat)}
    (hy : plainName y.cls = true) (hw : ws = Cond.codeWith y cc maxL ret hh :: ws')
    (body : ∀ p e s m args below meth c s₁, BodyLoose p l y (headSpec ws rm) cc maxL ret e s m args below meth c s₁ → c.maxLocals = maxL → Pc args s →
      W p l e (headSpec ws rm).room s m args below meth c s.heap [] 0 0 (vx_MQ below Qc XC args s mc ms free) (entryFrame m args maxL)) : vx_Met l y ws rm Pc Qc XC mc ms free := by
  refine MetFree.of_bodyS (code := cc) (maxLocals := maxL) (ret := ret) hy ?_ ?_
  · intro args s m h hn
    obtain ⟨m9, meth, c, hn9, h1, h2, h3, h4, -, h5, h6, -⟩ := Cond.codeWith_spec (atoms_spec (ws := ws) h _ (by rw [hw]; exact List.mem_cons_self))
    cases hn.symm.trans hn9
    exact ⟨meth, c, h1, h2, h3, h4, h5, h6⟩
  · intro p e s m args below meth c s₁ B hml hP _
    have hh0 : s₁.heap = s.heap := by rw [B.state]; rfl
    obtain ⟨t, a1, o, b1, b2, b3⟩ := body p e s m args below meth c s₁ B hml hP s₁ hh0 (Stand.of_body B)
    exact ⟨t, o, a1, b1, b2, b3⟩
/-! ===== END ===== -/

/-! ===== BEGIN printed: names, fields, word lists, decode rows ===== -/
end
section
def RX0 : String := "Flapline$Board"
def TX0 : u_T := fun k => match k with
  | 0 => ("Flapline$Board", "flips", "[I", true)
  | 1 => ("Flapline$Board", "wear", "[I", true)
  | 2 => ("Flapline$Board", "columns", "I", false)
  | 3 => ("Flapline$Board", "picture", "J", false)
  | 4 => ("Flapline$Board", "stuck", "J", false)
  | _ => ("Flapline$Board", "stuckBright", "J", false)
def tyX0 : Nat → FieldType := fun k => match k with
  | 0 => .array .int
  | 1 => .array .int
  | 2 => .int
  | 3 => .long
  | 4 => .long
  | _ => .long
abbrev wsX00 : List Cond := u_ws RX0 TX0 6
theorem nmX0 : ∀ a, a < 6 → ∀ b, b < 6 → a ≠ b → (TX0 a).2.1 ≠ (TX0 b).2.1 := by decide +kernel
theorem tyX0_ok : ∀ k, k < 6 → parseFieldDescriptor (TX0 k).2.2.1 = some (tyX0 k) := by decide +kernel
abbrev cX0_init : ByteArray := prog_2_method_1_code
def yX0_init : MethodName := ⟨RX0, "<init>", "()V"⟩
abbrev cX0_begin : ByteArray := prog_2_method_2_code
def yX0_begin : MethodName := ⟨RX0, "begin", "(I)V"⟩
abbrev cX0_faceOf : ByteArray := prog_2_method_3_code
def yX0_faceOf : MethodName := ⟨RX0, "faceOf", "(II)I"⟩
abbrev cX0_stuckFaceOf : ByteArray := prog_2_method_4_code
def yX0_stuckFaceOf : MethodName := ⟨RX0, "stuckFaceOf", "(II)I"⟩
abbrev cX0_fix : ByteArray := prog_2_method_5_code
def yX0_fix : MethodName := ⟨RX0, "fix", "(III)V"⟩
abbrev cX0_renewColumn : ByteArray := prog_2_method_6_code
def yX0_renewColumn : MethodName := ⟨RX0, "renewColumn", "(I)V"⟩
abbrev cX0_withStuck : ByteArray := prog_2_method_7_code
def yX0_withStuck : MethodName := ⟨RX0, "withStuck", "(J)J"⟩
abbrev cX0_turnTo : ByteArray := prog_2_method_8_code
def yX0_turnTo : MethodName := ⟨RX0, "turnTo", "(J)V"⟩
abbrev cX0_flipsIn : ByteArray := prog_2_method_9_code
def yX0_flipsIn : MethodName := ⟨RX0, "flipsIn", "(I)I"⟩
abbrev cX0_allFlips : ByteArray := prog_2_method_10_code
def yX0_allFlips : MethodName := ⟨RX0, "allFlips", "()I"⟩
abbrev cX0_isTrue : ByteArray := prog_2_method_11_code
def yX0_isTrue : MethodName := ⟨RX0, "isTrue", "()Z"⟩
def RX1 : String := "Flapline$Book"
def TX1 : u_T := fun k => match k with
  | 0 => ("Flapline$Book", "columnsOfLetters", "[I", true)
  | 1 => ("Flapline$Book", "formsOfLetters", "[I", true)
  | 2 => ("Flapline$Book", "rows", "[I", true)
  | 3 => ("Flapline$Book", "lengths", "[I", true)
  | 4 => ("Flapline$Book", "forms", "[J", true)
  | 5 => ("Flapline$Book", "letters", "I", false)
  | _ => ("Flapline$Book", "lines", "I", false)
def tyX1 : Nat → FieldType := fun k => match k with
  | 0 => .array .int
  | 1 => .array .int
  | 2 => .array .int
  | 3 => .array .int
  | 4 => .array .long
  | 5 => .int
  | _ => .int
abbrev wsX10 : List Cond := u_ws RX1 TX1 7
theorem nmX1 : ∀ a, a < 7 → ∀ b, b < 7 → a ≠ b → (TX1 a).2.1 ≠ (TX1 b).2.1 := by decide +kernel
theorem tyX1_ok : ∀ k, k < 7 → parseFieldDescriptor (TX1 k).2.2.1 = some (tyX1 k) := by decide +kernel
abbrev cX1_init : ByteArray := prog_3_method_1_code
def yX1_init : MethodName := ⟨RX1, "<init>", "()V"⟩
abbrev cX1_addLetter : ByteArray := prog_3_method_2_code
def yX1_addLetter : MethodName := ⟨RX1, "addLetter", "(II)I"⟩
abbrev cX1_canSpell : ByteArray := prog_3_method_3_code
def yX1_canSpell : MethodName := ⟨RX1, "canSpell", "(I)Z"⟩
abbrev cX1_hasRow : ByteArray := prog_3_method_4_code
def yX1_hasRow : MethodName := ⟨RX1, "hasRow", "(I)Z"⟩
abbrev cX1_addLine : ByteArray := prog_3_method_5_code
def yX1_addLine : MethodName := ⟨RX1, "addLine", "(I)I"⟩
abbrev cX1_letterFrom : ByteArray := prog_3_method_6_code
def yX1_letterFrom : MethodName := ⟨RX1, "letterFrom", "(II)J"⟩
abbrev cX1_placed : ByteArray := prog_3_method_7_code
def yX1_placed : MethodName := ⟨RX1, "placed", "(II)J"⟩
def RX2 : String := "Flapline$Planner"
def TX2 : u_T := fun k => match k with
  | 0 => ("Flapline$Planner", "stepsLeft", "[I", true)
  | 1 => ("Flapline$Planner", "dotsIn", "[I", true)
  | 2 => ("Flapline$Planner", "plan", "[I", true)
  | 3 => ("Flapline$Planner", "start", "J", false)
  | 4 => ("Flapline$Planner", "goal", "J", false)
  | 5 => ("Flapline$Planner", "power", "I", false)
  | 6 => ("Flapline$Planner", "changed", "I", false)
  | _ => ("Flapline$Planner", "steps", "I", false)
def tyX2 : Nat → FieldType := fun k => match k with
  | 0 => .array .int
  | 1 => .array .int
  | 2 => .array .int
  | 3 => .long
  | 4 => .long
  | 5 => .int
  | 6 => .int
  | _ => .int
abbrev wsX20 : List Cond := u_ws RX2 TX2 8
theorem nmX2 : ∀ a, a < 8 → ∀ b, b < 8 → a ≠ b → (TX2 a).2.1 ≠ (TX2 b).2.1 := by decide +kernel
theorem tyX2_ok : ∀ k, k < 8 → parseFieldDescriptor (TX2 k).2.2.1 = some (tyX2 k) := by decide +kernel
abbrev cX2_init : ByteArray := prog_4_method_1_code
def yX2_init : MethodName := ⟨RX2, "<init>", "()V"⟩
abbrev cX2_giveUp : ByteArray := prog_4_method_2_code
def yX2_giveUp : MethodName := ⟨RX2, "giveUp", "()V"⟩
abbrev cX2_begin : ByteArray := prog_4_method_3_code
def yX2_begin : MethodName := ⟨RX2, "begin", "(JJI)V"⟩
abbrev cX2_countDots : ByteArray := prog_4_method_4_code
def yX2_countDots : MethodName := ⟨RX2, "countDots", "()V"⟩
abbrev cX2_forbid : ByteArray := prog_4_method_5_code
def yX2_forbid : MethodName := ⟨RX2, "forbid", "(J)V"⟩
abbrev cX2_choose : ByteArray := prog_4_method_6_code
def yX2_choose : MethodName := ⟨RX2, "choose", "()V"⟩
abbrev cX2_fewestFrom : ByteArray := prog_4_method_7_code
def yX2_fewestFrom : MethodName := ⟨RX2, "fewestFrom", "(I)I"⟩
abbrev cX2_smallestFrom : ByteArray := prog_4_method_8_code
def yX2_smallestFrom : MethodName := ⟨RX2, "smallestFrom", "(I)I"⟩
abbrev cX2_canBeOneStep : ByteArray := prog_4_method_9_code
def yX2_canBeOneStep : MethodName := ⟨RX2, "canBeOneStep", "(I)Z"⟩
abbrev cX2_setOf : ByteArray := prog_4_method_10_code
def yX2_setOf : MethodName := ⟨RX2, "setOf", "(I)I"⟩
abbrev cX2_flips : ByteArray := prog_4_method_11_code
def yX2_flips : MethodName := ⟨RX2, "flips", "()I"⟩
abbrev cX2_pictureBehind : ByteArray := prog_4_method_12_code
def yX2_pictureBehind : MethodName := ⟨RX2, "pictureBehind", "(I)J"⟩
def RX3 : String := "Flapline$Route"
def TX3 : u_T := fun k => match k with
  | 0 => ("Flapline$Route", "ways", "[I", true)
  | 1 => ("Flapline$Route", "linesOfStops", "[I", true)
  | 2 => ("Flapline$Route", "stops", "I", false)
  | 3 => ("Flapline$Route", "next", "I", false)
  | _ => ("Flapline$Route", "turned", "I", false)
def tyX3 : Nat → FieldType := fun k => match k with
  | 0 => .array .int
  | 1 => .array .int
  | 2 => .int
  | 3 => .int
  | _ => .int
abbrev wsX30 : List Cond := u_ws RX3 TX3 5
theorem nmX3 : ∀ a, a < 5 → ∀ b, b < 5 → a ≠ b → (TX3 a).2.1 ≠ (TX3 b).2.1 := by decide +kernel
theorem tyX3_ok : ∀ k, k < 5 → parseFieldDescriptor (TX3 k).2.2.1 = some (tyX3 k) := by decide +kernel
abbrev cX3_init : ByteArray := prog_5_method_1_code
def yX3_init : MethodName := ⟨RX3, "<init>", "()V"⟩
abbrev cX3_fact : ByteArray := prog_5_method_4_code
def yX3_fact : MethodName := ⟨RX3, "fact", "(I)I"⟩
abbrev cX3_isTrue : ByteArray := prog_5_method_5_code
def yX3_isTrue : MethodName := ⟨RX3, "isTrue", "()Z"⟩
def RX4 : String := "Flapline$Wire"
def TX4 : u_T := fun k => match k with
  | 0 => ("Flapline$Wire", "broken", "I", false)
  | 1 => ("Flapline$Wire", "old", "I", false)
  | 2 => ("Flapline$Wire", "taken", "I", false)
  | 3 => ("Flapline$Wire", "unshown", "I", false)
  | _ => ("Flapline$Wire", "lastNumber", "I", false)
def tyX4 : Nat → FieldType := fun k => match k with
  | 0 => .int
  | 1 => .int
  | 2 => .int
  | 3 => .int
  | _ => .int
abbrev wsX40 : List Cond := u_ws RX4 TX4 5
theorem nmX4 : ∀ a, a < 5 → ∀ b, b < 5 → a ≠ b → (TX4 a).2.1 ≠ (TX4 b).2.1 := by decide +kernel
theorem tyX4_ok : ∀ k, k < 5 → parseFieldDescriptor (TX4 k).2.2.1 = some (tyX4 k) := by decide +kernel
abbrev cX4_init : ByteArray := prog_6_method_1_code
def yX4_init : MethodName := ⟨RX4, "<init>", "()V"⟩
abbrev cX4_fact : ByteArray := prog_6_method_4_code
def yX4_fact : MethodName := ⟨RX4, "fact", "(I)I"⟩
def RX5 : String := "Flapline"
def TX5 : u_T := fun k => match k with
  | 0 => ("Flapline", "board", "LFlapline$Board;", true)
  | 1 => ("Flapline", "book", "LFlapline$Book;", true)
  | 2 => ("Flapline", "planner", "LFlapline$Planner;", true)
  | 3 => ("Flapline", "wire", "LFlapline$Wire;", true)
  | 4 => ("Flapline", "route", "LFlapline$Route;", true)
  | 5 => ("Flapline", "power", "I", false)
  | 6 => ("Flapline", "blur", "I", false)
  | 7 => ("Flapline", "stepsEver", "I", false)
  | _ => ("Flapline", "shownLast", "I", false)
def tyX5 : Nat → FieldType := fun k => match k with
  | 0 => .object "Flapline$Board"
  | 1 => .object "Flapline$Book"
  | 2 => .object "Flapline$Planner"
  | 3 => .object "Flapline$Wire"
  | 4 => .object "Flapline$Route"
  | 5 => .int
  | 6 => .int
  | 7 => .int
  | _ => .int
abbrev wsX50 : List Cond := u_ws RX5 TX5 9
theorem nmX5 : ∀ a, a < 9 → ∀ b, b < 9 → a ≠ b → (TX5 a).2.1 ≠ (TX5 b).2.1 := by decide +kernel
theorem tyX5_ok : ∀ k, k < 9 → parseFieldDescriptor (TX5 k).2.2.1 = some (tyX5 k) := by decide +kernel
abbrev cX5_init : ByteArray := prog_1_method_1_code
def yX5_init : MethodName := ⟨RX5, "<init>", "()V"⟩
abbrev cX5_width : ByteArray := prog_1_method_2_code
def yX5_width : MethodName := ⟨RX5, "width", "(I)I"⟩
abbrev cX5_power : ByteArray := prog_1_method_3_code
def yX5_power : MethodName := ⟨RX5, "power", "(II)I"⟩
abbrev cX5_letter : ByteArray := prog_1_method_4_code
def yX5_letter : MethodName := ⟨RX5, "letter", "(IIII)I"⟩
abbrev cX5_list : ByteArray := prog_1_method_5_code
def yX5_list : MethodName := ⟨RX5, "list", "(I)I"⟩
abbrev cX5_stick : ByteArray := prog_1_method_6_code
def yX5_stick : MethodName := ⟨RX5, "stick", "(III)I"⟩
abbrev cX5_swap : ByteArray := prog_1_method_7_code
def yX5_swap : MethodName := ⟨RX5, "swap", "(I)I"⟩
abbrev cX5_show : ByteArray := prog_1_method_8_code
def yX5_show : MethodName := ⟨RX5, "show", "(I)I"⟩
abbrev cX5_dot : ByteArray := prog_1_method_13_code
def yX5_dot : MethodName := ⟨RX5, "dot", "(III)I"⟩
abbrev cX5_column : ByteArray := prog_1_method_14_code
def yX5_column : MethodName := ⟨RX5, "column", "(II)I"⟩
abbrev cX5_ofLine : ByteArray := prog_1_method_15_code
def yX5_ofLine : MethodName := ⟨RX5, "ofLine", "(II)I"⟩
abbrev cX5_step : ByteArray := prog_1_method_16_code
def yX5_step : MethodName := ⟨RX5, "step", "(II)I"⟩
abbrev cX5_sign : ByteArray := prog_1_method_18_code
def yX5_sign : MethodName := ⟨RX5, "sign", "(I)I"⟩
abbrev cX5_isSound : ByteArray := prog_1_method_22_code
def yX5_isSound : MethodName := ⟨RX5, "isSound", "()Z"⟩
abbrev cX5_digest : ByteArray := prog_1_method_23_code
def yX5_digest : MethodName := ⟨RX5, "digest", "()J"⟩
abbrev cX5_needColumn : ByteArray := prog_1_method_24_code
def yX5_needColumn : MethodName := ⟨RX5, "needColumn", "(I)V"⟩
abbrev cX5_needDot : ByteArray := prog_1_method_25_code
def yX5_needDot : MethodName := ⟨RX5, "needDot", "(II)V"⟩
abbrev cX5_needLine : ByteArray := prog_1_method_26_code
def yX5_needLine : MethodName := ⟨RX5, "needLine", "(I)V"⟩
abbrev cX5_isLine : ByteArray := prog_1_method_27_code
def yX5_isLine : MethodName := ⟨RX5, "isLine", "(I)Z"⟩
abbrev cX5_isHeight : ByteArray := prog_1_method_28_code
def yX5_isHeight : MethodName := ⟨RX5, "isHeight", "(I)Z"⟩
abbrev cX5_isColumnSet : ByteArray := prog_1_method_29_code
def yX5_isColumnSet : MethodName := ⟨RX5, "isColumnSet", "(I)Z"⟩
abbrev cX5_columnFact : ByteArray := prog_1_method_32_code
def yX5_columnFact : MethodName := ⟨RX5, "columnFact", "(II)I"⟩
abbrev cX5_lineFact : ByteArray := prog_1_method_33_code
def yX5_lineFact : MethodName := ⟨RX5, "lineFact", "(II)I"⟩
abbrev cX5_signFact : ByteArray := prog_1_method_34_code
def yX5_signFact : MethodName := ⟨RX5, "signFact", "(I)I"⟩
abbrev cX5_addLineTo : ByteArray := prog_1_method_35_code
def yX5_addLineTo : MethodName := ⟨RX5, "addLineTo", "(JI)J"⟩
abbrev cX5_lastOffset : ByteArray := prog_1_method_36_code
def yX5_lastOffset : MethodName := ⟨RX5, "lastOffset", "(I)I"⟩
abbrev cX5_harm : ByteArray := prog_1_method_37_code
def yX5_harm : MethodName := ⟨RX5, "harm", "(II)I"⟩
abbrev cX5_bestOffset : ByteArray := prog_1_method_38_code
def yX5_bestOffset : MethodName := ⟨RX5, "bestOffset", "(I)I"⟩
abbrev cX5_leastHarm : ByteArray := prog_1_method_39_code
def yX5_leastHarm : MethodName := ⟨RX5, "leastHarm", "(I)I"⟩
abbrev cX5_distance : ByteArray := prog_1_method_40_code
def yX5_distance : MethodName := ⟨RX5, "distance", "(JI)I"⟩
abbrev cX5_says : ByteArray := prog_1_method_41_code
def yX5_says : MethodName := ⟨RX5, "says", "(JI)Z"⟩
abbrev cX5_readAs : ByteArray := prog_1_method_42_code
def yX5_readAs : MethodName := ⟨RX5, "readAs", "(J)I"⟩
abbrev cX5_readOfGoal : ByteArray := prog_1_method_43_code
def yX5_readOfGoal : MethodName := ⟨RX5, "readOfGoal", "(I)I"⟩
abbrev cX5_goalAt : ByteArray := prog_1_method_44_code
def yX5_goalAt : MethodName := ⟨RX5, "goalAt", "(II)J"⟩
abbrev cX5_bringUp : ByteArray := prog_1_method_45_code
def yX5_bringUp : MethodName := ⟨RX5, "bringUp", "(I)I"⟩
abbrev cX5_makePlan : ByteArray := prog_1_method_46_code
def yX5_makePlan : MethodName := ⟨RX5, "makePlan", "(I)V"⟩
abbrev cX5_forbidPlacesOf : ByteArray := prog_1_method_47_code
def yX5_forbidPlacesOf : MethodName := ⟨RX5, "forbidPlacesOf", "(I)V"⟩
abbrev cX5_planIsTrue : ByteArray := prog_1_method_48_code
def yX5_planIsTrue : MethodName := ⟨RX5, "planIsTrue", "(I)Z"⟩
abbrev cX5_isWrong : ByteArray := prog_1_method_49_code
def yX5_isWrong : MethodName := ⟨RX5, "isWrong", "(JI)Z"⟩
abbrev cX5_bitOf : ByteArray := prog_1_method_50_code
def yX5_bitOf : MethodName := ⟨RX5, "bitOf", "(II)I"⟩
abbrev cX5_dotIn : ByteArray := prog_1_method_51_code
def yX5_dotIn : MethodName := ⟨RX5, "dotIn", "(II)J"⟩
abbrev cX5_setIn : ByteArray := prog_1_method_52_code
def yX5_setIn : MethodName := ⟨RX5, "setIn", "(JI)I"⟩
abbrev cX5_lesser : ByteArray := prog_1_method_53_code
def yX5_lesser : MethodName := ⟨RX5, "lesser", "(II)I"⟩
abbrev cX5_at : ByteArray := prog_1_method_54_code
def yX5_at : MethodName := ⟨RX5, "at", "([II)I"⟩
abbrev cX5_put : ByteArray := prog_1_method_55_code
def yX5_put : MethodName := ⟨RX5, "put", "([III)V"⟩
abbrev cX5_put_ : ByteArray := prog_1_method_56_code
def yX5_put_ : MethodName := ⟨RX5, "put", "([JIJ)V"⟩
def RX6 : String := "FlaplineModel"
def TX6 : u_T := fun k => match k with
  | _ => ("", "", "", false)
def tyX6 : Nat → FieldType := fun k => match k with
  | _ => .int
abbrev wsX60 : List Cond := u_ws RX6 TX6 0
theorem nmX6 : ∀ a, a < 0 → ∀ b, b < 0 → a ≠ b → (TX6 a).2.1 ≠ (TX6 b).2.1 := by decide +kernel
theorem tyX6_ok : ∀ k, k < 0 → parseFieldDescriptor (TX6 k).2.2.1 = some (tyX6 k) := by decide +kernel
def RJx145de : String := "java/io/Serializable"
def TJx145de : u_T := fun k => match k with
  | _ => ("", "", "", false)
def tyJx145de : Nat → FieldType := fun k => match k with
  | _ => .int
abbrev wsJx145de0 : List Cond := u_ws RJx145de TJx145de 0
theorem nmJx145de : ∀ a, a < 0 → ∀ b, b < 0 → a ≠ b → (TJx145de a).2.1 ≠ (TJx145de b).2.1 := by decide +kernel
theorem tyJx145de_ok : ∀ k, k < 0 → parseFieldDescriptor (TJx145de k).2.2.1 = some (tyJx145de k) := by decide +kernel
def RJ6 : String := "java/lang/Integer"
def TJ6 : u_T := fun k => match k with
  | _ => ("", "", "", false)
def tyJ6 : Nat → FieldType := fun k => match k with
  | _ => .int
abbrev wsJ60 : List Cond := u_ws RJ6 TJ6 0
theorem nmJ6 : ∀ a, a < 0 → ∀ b, b < 0 → a ≠ b → (TJ6 a).2.1 ≠ (TJ6 b).2.1 := by decide +kernel
theorem tyJ6_ok : ∀ k, k < 0 → parseFieldDescriptor (TJ6 k).2.2.1 = some (tyJ6 k) := by decide +kernel
abbrev cJ6_bitCount_0f7a4 : ByteArray := prog_13_method_49_code
def yJ6_bitCount_0f7a4 : MethodName := ⟨RJ6, "bitCount", "(I)I"⟩
def RJ13 : String := "java/lang/Long"
def TJ13 : u_T := fun k => match k with
  | _ => ("", "", "", false)
def tyJ13 : Nat → FieldType := fun k => match k with
  | _ => .int
abbrev wsJ130 : List Cond := u_ws RJ13 TJ13 0
theorem nmJ13 : ∀ a, a < 0 → ∀ b, b < 0 → a ≠ b → (TJ13 a).2.1 ≠ (TJ13 b).2.1 := by decide +kernel
theorem tyJ13_ok : ∀ k, k < 0 → parseFieldDescriptor (TJ13 k).2.2.1 = some (tyJ13 k) := by decide +kernel
abbrev cJ13_bitCount_95d88 : ByteArray := prog_14_method_50_code
def yJ13_bitCount_95d88 : MethodName := ⟨RJ13, "bitCount", "(J)I"⟩
def RJ9 : String := "java/lang/Math"
def TJ9 : u_T := fun k => match k with
  | _ => ("", "", "", false)
def tyJ9 : Nat → FieldType := fun k => match k with
  | _ => .int
abbrev wsJ90 : List Cond := u_ws RJ9 TJ9 0
theorem nmJ9 : ∀ a, a < 0 → ∀ b, b < 0 → a ≠ b → (TJ9 a).2.1 ≠ (TJ9 b).2.1 := by decide +kernel
theorem tyJ9_ok : ∀ k, k < 0 → parseFieldDescriptor (TJ9 k).2.2.1 = some (tyJ9 k) := by decide +kernel
abbrev cJ9_max_7cf53 : ByteArray := prog_15_method_65_code
def yJ9_max_7cf53 : MethodName := ⟨RJ9, "max", "(II)I"⟩
def RJ0 : String := "java/lang/String"
def TJ0 : u_T := fun k => match k with
  | _ => ("", "", "", false)
def tyJ0 : Nat → FieldType := fun k => match k with
  | _ => .int
abbrev wsJ00 : List Cond := u_ws RJ0 TJ0 0
theorem nmJ0 : ∀ a, a < 0 → ∀ b, b < 0 → a ≠ b → (TJ0 a).2.1 ≠ (TJ0 b).2.1 := by decide +kernel
theorem tyJ0_ok : ∀ k, k < 0 → parseFieldDescriptor (TJ0 k).2.2.1 = some (tyJ0 k) := by decide +kernel
def RL : String := "FlaplineLaw"
abbrev cL_below : ByteArray := method_2_code
def yL_below : MethodName := ⟨RL, "below", "(II)I"⟩
abbrev cL_cell : ByteArray := method_3_code
def yL_cell : MethodName := ⟨RL, "cell", "([II)I"⟩
abbrev cL_law : ByteArray := code
def yL_law : MethodName := ⟨RL, "law", "([I)Z"⟩
abbrev cL_list : ByteArray := method_5_code
def yL_list : MethodName := ⟨RL, "list", "(LFlapline;I)V"⟩
abbrev cL_isShown : ByteArray := method_6_code
def yL_isShown : MethodName := ⟨RL, "isShown", "(LFlapline;II[I)Z"⟩
abbrev cL_isRight : ByteArray := method_7_code
def yL_isRight : MethodName := ⟨RL, "isRight", "(LFlapline;[I[Z[I)Z"⟩
abbrev cL_isWell : ByteArray := method_8_code
def yL_isWell : MethodName := ⟨RL, "isWell", "(LFlapline;I)Z"⟩
def wsX0_init : List Cond := .code yX0_init cX0_init 1 none :: ([.methodLink RX0 3 objectInit, .instanceMethod objectInit, .code objectInit ⟨#[0xb1]⟩ 1 none, .arrayClass .int, .fieldLink RX0 9 "Flapline$Board" "flips" "[I", .fieldLink RX0 15 "Flapline$Board" "wear" "[I", .fieldLink RX0 18 "Flapline$Board" "columns" "I"] ++ wsX00)
def wsX0_begin : List Cond := .code yX0_begin cX0_begin 3 none :: ([.fieldLink RX0 18 "Flapline$Board" "columns" "I", .fieldLink RX0 22 "Flapline$Board" "picture" "J", .fieldLink RX0 26 "Flapline$Board" "stuck" "J", .fieldLink RX0 29 "Flapline$Board" "stuckBright" "J", .fieldLink RX0 9 "Flapline$Board" "flips" "[I", .fieldLink RX0 15 "Flapline$Board" "wear" "[I"] ++ wsX00)
def wsX5_bitOf : List Cond := .code yX5_bitOf cX5_bitOf 2 (some .int) :: ([])
def wsX5_dotIn : List Cond := .code yX5_dotIn cX5_dotIn 2 (some .long) :: ([.methodLink RX5 199 yX5_bitOf, .static yX5_bitOf, .initialized RX5, .code yX5_bitOf cX5_bitOf 2 (some .int)])
def wsX0_faceOf : List Cond := .code yX0_faceOf cX0_faceOf 3 (some .int) :: ([.fieldLink RX0 22 "Flapline$Board" "picture" "J", .static yX5_dotIn, .initialized RX5, .code yX5_dotIn cX5_dotIn 2 (some .long), .methodLink RX5 199 yX5_bitOf, .static yX5_bitOf, .code yX5_bitOf cX5_bitOf 2 (some .int)] ++ wsX00)
def wsX0_stuckFaceOf : List Cond := .code yX0_stuckFaceOf cX0_stuckFaceOf 5 (some .int) :: ([.fieldLink RX0 26 "Flapline$Board" "stuck" "J", .fieldLink RX0 29 "Flapline$Board" "stuckBright" "J", .static yX5_dotIn, .initialized RX5, .code yX5_dotIn cX5_dotIn 2 (some .long), .methodLink RX5 199 yX5_bitOf, .static yX5_bitOf, .code yX5_bitOf cX5_bitOf 2 (some .int)] ++ wsX00)
def wsX0_withStuck : List Cond := .code yX0_withStuck cX0_withStuck 3 (some .long) :: ([.fieldLink RX0 26 "Flapline$Board" "stuck" "J", .constantLong RX0 36 (-1), .fieldLink RX0 29 "Flapline$Board" "stuckBright" "J"] ++ wsX00)
def wsX0_fix : List Cond := .code yX0_fix cX0_fix 6 none :: ([.fieldLink RX0 26 "Flapline$Board" "stuck" "J", .constantLong RX0 36 (-1), .fieldLink RX0 29 "Flapline$Board" "stuckBright" "J", .fieldLink RX0 22 "Flapline$Board" "picture" "J", .static yX5_dotIn, .initialized RX5, .code yX5_dotIn cX5_dotIn 2 (some .long), .methodLink RX5 199 yX5_bitOf, .static yX5_bitOf, .code yX5_bitOf cX5_bitOf 2 (some .int), .methodLink RX0 38 yX0_withStuck, .instanceMethod yX0_withStuck, .selects RX0 yX0_withStuck yX0_withStuck, .initialized RX0, .code yX0_withStuck cX0_withStuck 3 (some .long)] ++ wsX00)
def wsX5_put : List Cond := .code yX5_put cX5_put 3 none :: ([])
def wsX0_renewColumn : List Cond := .code yX0_renewColumn cX0_renewColumn 4 none :: ([.constantLong RX0 42 (31), .constantLong RX0 36 (-1), .fieldLink RX0 22 "Flapline$Board" "picture" "J", .fieldLink RX0 26 "Flapline$Board" "stuck" "J", .fieldLink RX0 29 "Flapline$Board" "stuckBright" "J", .fieldLink RX0 15 "Flapline$Board" "wear" "[I", .static yX5_bitOf, .initialized RX5, .code yX5_bitOf cX5_bitOf 2 (some .int), .static yX5_put, .code yX5_put cX5_put 3 none] ++ wsX00)
def wsX5_at : List Cond := .code yX5_at cX5_at 2 (some .int) :: ([])
def wsX5_setIn : List Cond := .code yX5_setIn cX5_setIn 3 (some .int) :: ([])
def wsJ6_bitCount_0f7a4 : List Cond := .code yJ6_bitCount_0f7a4 cJ6_bitCount_0f7a4 1 (some .int) :: ([.constant RJ6 265 (1431655765), .constant RJ6 266 (858993459), .constant RJ6 267 (252645135)])
def wsX0_turnTo : List Cond := .code yX0_turnTo cX0_turnTo 6 none :: ([.fieldLink RX0 22 "Flapline$Board" "picture" "J", .fieldLink RX0 18 "Flapline$Board" "columns" "I", .fieldLink RX0 15 "Flapline$Board" "wear" "[I", .fieldLink RX0 9 "Flapline$Board" "flips" "[I", .static yX5_at, .initialized RX5, .code yX5_at cX5_at 2 (some .int), .static yX5_setIn, .code yX5_setIn cX5_setIn 3 (some .int), .methodLink RX0 60 yJ6_bitCount_0f7a4, .static yJ6_bitCount_0f7a4, .initialized RJ6, .code yJ6_bitCount_0f7a4 cJ6_bitCount_0f7a4 1 (some .int), .constant RJ6 265 (1431655765), .constant RJ6 266 (858993459), .constant RJ6 267 (252645135), .static yX5_put, .code yX5_put cX5_put 3 none] ++ wsX00)
def wsX0_flipsIn : List Cond := .code yX0_flipsIn cX0_flipsIn 4 (some .int) :: ([.fieldLink RX0 9 "Flapline$Board" "flips" "[I", .static yX5_bitOf, .initialized RX5, .code yX5_bitOf cX5_bitOf 2 (some .int), .static yX5_at, .code yX5_at cX5_at 2 (some .int)] ++ wsX00)
def wsX0_allFlips : List Cond := .code yX0_allFlips cX0_allFlips 3 (some .int) :: ([.fieldLink RX0 18 "Flapline$Board" "columns" "I", .methodLink RX0 66 yX0_flipsIn, .instanceMethod yX0_flipsIn, .selects RX0 yX0_flipsIn yX0_flipsIn, .initialized RX0, .code yX0_flipsIn cX0_flipsIn 4 (some .int), .fieldLink RX0 9 "Flapline$Board" "flips" "[I", .static yX5_bitOf, .initialized RX5, .code yX5_bitOf cX5_bitOf 2 (some .int), .static yX5_at, .code yX5_at cX5_at 2 (some .int)] ++ wsX00)
def wsX0_isTrue : List Cond := .code yX0_isTrue cX0_isTrue 2 (some .boolean) :: ([.fieldLink RX0 18 "Flapline$Board" "columns" "I", .fieldLink RX0 15 "Flapline$Board" "wear" "[I", .fieldLink RX0 22 "Flapline$Board" "picture" "J", .static yX5_at, .initialized RX5, .code yX5_at cX5_at 2 (some .int), .methodLink RX0 66 yX0_flipsIn, .instanceMethod yX0_flipsIn, .selects RX0 yX0_flipsIn yX0_flipsIn, .initialized RX0, .code yX0_flipsIn cX0_flipsIn 4 (some .int), .fieldLink RX0 9 "Flapline$Board" "flips" "[I", .static yX5_bitOf, .code yX5_bitOf cX5_bitOf 2 (some .int), .methodLink RX0 38 yX0_withStuck, .instanceMethod yX0_withStuck, .selects RX0 yX0_withStuck yX0_withStuck, .code yX0_withStuck cX0_withStuck 3 (some .long), .fieldLink RX0 26 "Flapline$Board" "stuck" "J", .constantLong RX0 36 (-1), .fieldLink RX0 29 "Flapline$Board" "stuckBright" "J"] ++ wsX00)
def wsX1_init : List Cond := .code yX1_init cX1_init 1 none :: ([.methodLink RX1 3 objectInit, .instanceMethod objectInit, .code objectInit ⟨#[0xb1]⟩ 1 none, .arrayClass .int, .fieldLink RX1 9 "Flapline$Book" "columnsOfLetters" "[I", .fieldLink RX1 15 "Flapline$Book" "formsOfLetters" "[I", .fieldLink RX1 18 "Flapline$Book" "rows" "[I", .fieldLink RX1 21 "Flapline$Book" "lengths" "[I", .arrayClass .long, .fieldLink RX1 24 "Flapline$Book" "forms" "[J"] ++ wsX10)
def wsX1_addLetter : List Cond := .code yX1_addLetter cX1_addLetter 3 (some .int) :: ([.fieldLink RX1 28 "Flapline$Book" "letters" "I", .fieldLink RX1 9 "Flapline$Book" "columnsOfLetters" "[I", .fieldLink RX1 15 "Flapline$Book" "formsOfLetters" "[I", .static yX5_put, .initialized RX5, .code yX5_put cX5_put 3 none] ++ wsX10)
def wsX1_canSpell : List Cond := .code yX1_canSpell cX1_canSpell 5 (some .boolean) :: ([.fieldLink RX1 28 "Flapline$Book" "letters" "I"] ++ wsX10)
def wsX1_hasRow : List Cond := .code yX1_hasRow cX1_hasRow 3 (some .boolean) :: ([.fieldLink RX1 36 "Flapline$Book" "lines" "I", .fieldLink RX1 18 "Flapline$Book" "rows" "[I", .static yX5_at, .initialized RX5, .code yX5_at cX5_at 2 (some .int)] ++ wsX10)
def wsX1_letterFrom : List Cond := .code yX1_letterFrom cX1_letterFrom 3 (some .long) :: ([.fieldLink RX1 15 "Flapline$Book" "formsOfLetters" "[I", .static yX5_at, .initialized RX5, .code yX5_at cX5_at 2 (some .int), .static yX5_bitOf, .code yX5_bitOf cX5_bitOf 2 (some .int)] ++ wsX10)
def wsX5_put_ : List Cond := .code yX5_put_ cX5_put_ 4 none :: ([])
def wsX1_addLine : List Cond := .code yX1_addLine cX1_addLine 7 (some .int) :: ([.fieldLink RX1 9 "Flapline$Book" "columnsOfLetters" "[I", .fieldLink RX1 18 "Flapline$Book" "rows" "[I", .fieldLink RX1 36 "Flapline$Book" "lines" "I", .fieldLink RX1 21 "Flapline$Book" "lengths" "[I", .fieldLink RX1 24 "Flapline$Book" "forms" "[J", .methodLink RX1 43 yX1_letterFrom, .instanceMethod yX1_letterFrom, .selects RX1 yX1_letterFrom yX1_letterFrom, .initialized RX1, .code yX1_letterFrom cX1_letterFrom 3 (some .long), .fieldLink RX1 15 "Flapline$Book" "formsOfLetters" "[I", .static yX5_at, .initialized RX5, .code yX5_at cX5_at 2 (some .int), .static yX5_bitOf, .code yX5_bitOf cX5_bitOf 2 (some .int), .static yX5_put, .code yX5_put cX5_put 3 none, .static yX5_put_, .code yX5_put_ cX5_put_ 4 none] ++ wsX10)
def wsX1_placed : List Cond := .code yX1_placed cX1_placed 3 (some .long) :: ([.fieldLink RX1 24 "Flapline$Book" "forms" "[J"] ++ wsX10)
def wsX2_init : List Cond := .code yX2_init cX2_init 1 none :: ([.methodLink RX2 3 objectInit, .instanceMethod objectInit, .code objectInit ⟨#[0xb1]⟩ 1 none, .arrayClass .int, .fieldLink RX2 9 "Flapline$Planner" "stepsLeft" "[I", .fieldLink RX2 15 "Flapline$Planner" "dotsIn" "[I", .fieldLink RX2 18 "Flapline$Planner" "plan" "[I", .fieldLink RX2 21 "Flapline$Planner" "steps" "I"] ++ wsX20)
def wsX2_giveUp : List Cond := .code yX2_giveUp cX2_giveUp 1 none :: ([.fieldLink RX2 21 "Flapline$Planner" "steps" "I"] ++ wsX20)
def wsX2_countDots : List Cond := .code yX2_countDots cX2_countDots 4 none :: ([.fieldLink RX2 15 "Flapline$Planner" "dotsIn" "[I", .fieldLink RX2 25 "Flapline$Planner" "start" "J", .fieldLink RX2 29 "Flapline$Planner" "goal" "J", .methodLink RX2 45 yJ6_bitCount_0f7a4, .static yJ6_bitCount_0f7a4, .initialized RJ6, .code yJ6_bitCount_0f7a4 cJ6_bitCount_0f7a4 1 (some .int), .constant RJ6 265 (1431655765), .constant RJ6 266 (858993459), .constant RJ6 267 (252645135), .static yX5_setIn, .initialized RX5, .code yX5_setIn cX5_setIn 3 (some .int), .static yX5_at, .code yX5_at cX5_at 2 (some .int)] ++ wsX20)
def wsX2_begin : List Cond := .code yX2_begin cX2_begin 7 none :: ([.fieldLink RX2 25 "Flapline$Planner" "start" "J", .fieldLink RX2 29 "Flapline$Planner" "goal" "J", .fieldLink RX2 32 "Flapline$Planner" "power" "I", .fieldLink RX2 35 "Flapline$Planner" "changed" "I", .fieldLink RX2 9 "Flapline$Planner" "stepsLeft" "[I", .static yX5_setIn, .initialized RX5, .code yX5_setIn cX5_setIn 3 (some .int), .methodLink RX2 42 yX2_countDots, .instanceMethod yX2_countDots, .selects RX2 yX2_countDots yX2_countDots, .initialized RX2, .code yX2_countDots cX2_countDots 4 none, .fieldLink RX2 15 "Flapline$Planner" "dotsIn" "[I", .methodLink RX2 45 yJ6_bitCount_0f7a4, .static yJ6_bitCount_0f7a4, .initialized RJ6, .code yJ6_bitCount_0f7a4 cJ6_bitCount_0f7a4 1 (some .int), .constant RJ6 265 (1431655765), .constant RJ6 266 (858993459), .constant RJ6 267 (252645135), .static yX5_at, .code yX5_at cX5_at 2 (some .int)] ++ wsX20)
def wsX2_forbid : List Cond := .code yX2_forbid cX2_forbid 6 none :: ([.fieldLink RX2 25 "Flapline$Planner" "start" "J", .fieldLink RX2 29 "Flapline$Planner" "goal" "J", .fieldLink RX2 9 "Flapline$Planner" "stepsLeft" "[I", .static yX5_setIn, .initialized RX5, .code yX5_setIn cX5_setIn 3 (some .int), .static yX5_put, .code yX5_put cX5_put 3 none] ++ wsX20)
def wsX2_canBeOneStep : List Cond := .code yX2_canBeOneStep cX2_canBeOneStep 3 (some .boolean) :: ([.fieldLink RX2 15 "Flapline$Planner" "dotsIn" "[I", .fieldLink RX2 32 "Flapline$Planner" "power" "I"] ++ wsX20)
def wsX2_fewestFrom : List Cond := .code yX2_fewestFrom cX2_fewestFrom 6 (some .int) :: ([.fieldLink RX2 35 "Flapline$Planner" "changed" "I", .fieldLink RX2 9 "Flapline$Planner" "stepsLeft" "[I", .static yX5_at, .initialized RX5, .code yX5_at cX5_at 2 (some .int), .methodLink RX2 65 yX2_canBeOneStep, .instanceMethod yX2_canBeOneStep, .selects RX2 yX2_canBeOneStep yX2_canBeOneStep, .initialized RX2, .code yX2_canBeOneStep cX2_canBeOneStep 3 (some .boolean), .fieldLink RX2 15 "Flapline$Planner" "dotsIn" "[I", .fieldLink RX2 32 "Flapline$Planner" "power" "I"] ++ wsX20)
def wsX2_smallestFrom : List Cond := .code yX2_smallestFrom cX2_smallestFrom 5 (some .int) :: ([.fieldLink RX2 35 "Flapline$Planner" "changed" "I", .fieldLink RX2 9 "Flapline$Planner" "stepsLeft" "[I", .static yX5_at, .initialized RX5, .code yX5_at cX5_at 2 (some .int), .methodLink RX2 65 yX2_canBeOneStep, .instanceMethod yX2_canBeOneStep, .selects RX2 yX2_canBeOneStep yX2_canBeOneStep, .initialized RX2, .code yX2_canBeOneStep cX2_canBeOneStep 3 (some .boolean), .fieldLink RX2 15 "Flapline$Planner" "dotsIn" "[I", .fieldLink RX2 32 "Flapline$Planner" "power" "I"] ++ wsX20)
def wsX2_choose : List Cond := .code yX2_choose cX2_choose 4 none :: ([.fieldLink RX2 9 "Flapline$Planner" "stepsLeft" "[I", .fieldLink RX2 35 "Flapline$Planner" "changed" "I", .fieldLink RX2 21 "Flapline$Planner" "steps" "I", .fieldLink RX2 18 "Flapline$Planner" "plan" "[I", .static yX5_put, .initialized RX5, .code yX5_put cX5_put 3 none, .static yX5_at, .code yX5_at cX5_at 2 (some .int), .methodLink RX2 59 yX2_fewestFrom, .instanceMethod yX2_fewestFrom, .selects RX2 yX2_fewestFrom yX2_fewestFrom, .initialized RX2, .code yX2_fewestFrom cX2_fewestFrom 6 (some .int), .methodLink RX2 65 yX2_canBeOneStep, .instanceMethod yX2_canBeOneStep, .selects RX2 yX2_canBeOneStep yX2_canBeOneStep, .code yX2_canBeOneStep cX2_canBeOneStep 3 (some .boolean), .fieldLink RX2 15 "Flapline$Planner" "dotsIn" "[I", .fieldLink RX2 32 "Flapline$Planner" "power" "I", .methodLink RX2 62 yX2_smallestFrom, .instanceMethod yX2_smallestFrom, .selects RX2 yX2_smallestFrom yX2_smallestFrom, .code yX2_smallestFrom cX2_smallestFrom 5 (some .int)] ++ wsX20)
def wsX2_setOf : List Cond := .code yX2_setOf cX2_setOf 2 (some .int) :: ([.fieldLink RX2 21 "Flapline$Planner" "steps" "I", .fieldLink RX2 18 "Flapline$Planner" "plan" "[I", .static yX5_at, .initialized RX5, .code yX5_at cX5_at 2 (some .int)] ++ wsX20)
def wsJ13_bitCount_95d88 : List Cond := .code yJ13_bitCount_95d88 cJ13_bitCount_95d88 2 (some .int) :: ([.constantLong RJ13 314 (6148914691236517205), .constantLong RJ13 316 (3689348814741910323), .constantLong RJ13 318 (1085102592571150095)])
def wsX2_flips : List Cond := .code yX2_flips cX2_flips 1 (some .int) :: ([.fieldLink RX2 21 "Flapline$Planner" "steps" "I", .fieldLink RX2 25 "Flapline$Planner" "start" "J", .fieldLink RX2 29 "Flapline$Planner" "goal" "J", .methodLink RX2 69 yJ13_bitCount_95d88, .static yJ13_bitCount_95d88, .initialized RJ13, .code yJ13_bitCount_95d88 cJ13_bitCount_95d88 2 (some .int), .constantLong RJ13 314 (6148914691236517205), .constantLong RJ13 316 (3689348814741910323), .constantLong RJ13 318 (1085102592571150095)] ++ wsX20)
def wsX2_pictureBehind : List Cond := .code yX2_pictureBehind cX2_pictureBehind 5 (some .long) :: ([.fieldLink RX2 25 "Flapline$Planner" "start" "J", .fieldLink RX2 29 "Flapline$Planner" "goal" "J", .constantLong RX2 74 (31), .static yX5_bitOf, .initialized RX5, .code yX5_bitOf cX5_bitOf 2 (some .int)] ++ wsX20)
def wsX3_init : List Cond := .code yX3_init cX3_init 1 none :: ([.methodLink RX3 3 objectInit, .instanceMethod objectInit, .code objectInit ⟨#[0xb1]⟩ 1 none, .arrayClass .int, .fieldLink RX3 9 "Flapline$Route" "ways" "[I", .fieldLink RX3 15 "Flapline$Route" "linesOfStops" "[I"] ++ wsX30)
def wsX3_fact : List Cond := .code yX3_fact cX3_fact 2 (some .int) :: ([.fieldLink RX3 18 "Flapline$Route" "stops" "I", .fieldLink RX3 29 "Flapline$Route" "next" "I", .fieldLink RX3 26 "Flapline$Route" "turned" "I"] ++ wsX30)
def wsX3_isTrue : List Cond := .code yX3_isTrue cX3_isTrue 1 (some .boolean) :: ([.fieldLink RX3 29 "Flapline$Route" "next" "I", .fieldLink RX3 18 "Flapline$Route" "stops" "I"] ++ wsX30)
def wsX4_init : List Cond := .code yX4_init cX4_init 1 none :: ([.methodLink RX4 3 objectInit, .instanceMethod objectInit, .code objectInit ⟨#[0xb1]⟩ 1 none, .fieldLink RX4 9 "Flapline$Wire" "lastNumber" "I"] ++ wsX40)
def wsX4_fact : List Cond := .code yX4_fact cX4_fact 2 (some .int) :: ([.fieldLink RX4 24 "Flapline$Wire" "broken" "I", .fieldLink RX4 27 "Flapline$Wire" "old" "I", .fieldLink RX4 21 "Flapline$Wire" "taken" "I", .fieldLink RX4 30 "Flapline$Wire" "unshown" "I", .fieldLink RX4 9 "Flapline$Wire" "lastNumber" "I"] ++ wsX40)
def wsX5_init_r1 : List Cond := [Cond.methodLink RX5 1 objectInit, Cond.instanceMethod objectInit, Cond.code objectInit ⟨#[0xb1]⟩ 1 none, Cond.classLink RX5 7 RX0, Cond.instantiable RX0 6, Cond.initialized RX0, Cond.fieldLink RX5 10 "Flapline" "board" "LFlapline$Board;", Cond.classLink RX5 16 RX1, Cond.instantiable RX1 7, Cond.initialized RX1, Cond.fieldLink RX5 19 "Flapline" "book" "LFlapline$Book;", Cond.classLink RX5 23 RX2, Cond.instantiable RX2 8, Cond.initialized RX2, Cond.fieldLink RX5 26 "Flapline" "planner" "LFlapline$Planner;", Cond.classLink RX5 30 RX4, Cond.instantiable RX4 5, Cond.initialized RX4, Cond.fieldLink RX5 33 "Flapline" "wire" "LFlapline$Wire;", Cond.classLink RX5 37 RX3, Cond.instantiable RX3 5, Cond.initialized RX3, Cond.fieldLink RX5 40 "Flapline" "route" "LFlapline$Route;", Cond.fieldLink RX5 44 "Flapline" "power" "I"]
def wsX5_init_r2 : List Cond := [Cond.fieldLink RX5 48 "Flapline" "blur" "I", Cond.fieldLink RX5 51 "Flapline" "shownLast" "I", Cond.instanceMethod yX0_init, Cond.code yX0_init cX0_init 1 none, Cond.methodLink RX0 3 objectInit, Cond.arrayClass .int, Cond.fieldLink RX0 9 "Flapline$Board" "flips" "[I", Cond.fieldLink RX0 15 "Flapline$Board" "wear" "[I", Cond.fieldLink RX0 18 "Flapline$Board" "columns" "I", Cond.instanceMethod yX1_init, Cond.code yX1_init cX1_init 1 none, Cond.methodLink RX1 3 objectInit, Cond.fieldLink RX1 9 "Flapline$Book" "columnsOfLetters" "[I", Cond.fieldLink RX1 15 "Flapline$Book" "formsOfLetters" "[I", Cond.fieldLink RX1 18 "Flapline$Book" "rows" "[I", Cond.fieldLink RX1 21 "Flapline$Book" "lengths" "[I", Cond.arrayClass .long, Cond.fieldLink RX1 24 "Flapline$Book" "forms" "[J", Cond.instanceMethod yX2_init, Cond.code yX2_init cX2_init 1 none, Cond.methodLink RX2 3 objectInit, Cond.fieldLink RX2 9 "Flapline$Planner" "stepsLeft" "[I", Cond.fieldLink RX2 15 "Flapline$Planner" "dotsIn" "[I", Cond.fieldLink RX2 18 "Flapline$Planner" "plan" "[I"]
def wsX5_init_r3 : List Cond := [Cond.fieldLink RX2 21 "Flapline$Planner" "steps" "I", Cond.instanceMethod yX4_init, Cond.code yX4_init cX4_init 1 none, Cond.methodLink RX4 3 objectInit, Cond.fieldLink RX4 9 "Flapline$Wire" "lastNumber" "I", Cond.instanceMethod yX3_init, Cond.code yX3_init cX3_init 1 none, Cond.methodLink RX3 3 objectInit, Cond.fieldLink RX3 9 "Flapline$Route" "ways" "[I", Cond.fieldLink RX3 15 "Flapline$Route" "linesOfStops" "[I"]
def wsX5_init : List Cond := .code yX5_init cX5_init 1 none :: ((wsX5_init_r1 ++ (wsX5_init_r2 ++ wsX5_init_r3)) ++ wsX00 ++ wsX50 ++ wsX10 ++ wsX20 ++ wsX40 ++ wsX30)
def wsX5_width : List Cond := .code yX5_width cX5_width 3 (some .int) :: ([.classLink RX5 54 "java/lang/IllegalArgumentException", .initialized "java/lang/IllegalArgumentException", .fieldLink RX5 10 "Flapline" "board" "LFlapline$Board;", .fieldLink RX5 51 "Flapline" "shownLast" "I", .instanceMethod yX0_begin, .initialized RX0, .selects RX0 yX0_begin yX0_begin, .code yX0_begin cX0_begin 3 none, .fieldLink RX0 18 "Flapline$Board" "columns" "I", .fieldLink RX0 22 "Flapline$Board" "picture" "J", .fieldLink RX0 26 "Flapline$Board" "stuck" "J", .fieldLink RX0 29 "Flapline$Board" "stuckBright" "J", .fieldLink RX0 9 "Flapline$Board" "flips" "[I", .fieldLink RX0 15 "Flapline$Board" "wear" "[I"] ++ wsX50 ++ wsX00 ++ (vx_atS RX5 58 "java/lang/IllegalArgumentException" ["java/lang/RuntimeException", "java/lang/Exception"]).filter goodWord)
def wsX5_power : List Cond := .code yX5_power cX5_power 4 (some .int) :: ([.classLink RX5 54 "java/lang/IllegalArgumentException", .initialized "java/lang/IllegalArgumentException", .fieldLink RX5 44 "Flapline" "power" "I", .fieldLink RX5 48 "Flapline" "blur" "I"] ++ wsX50 ++ (vx_atS RX5 58 "java/lang/IllegalArgumentException" ["java/lang/RuntimeException", "java/lang/Exception"]).filter goodWord)
def wsX5_isColumnSet : List Cond := .code yX5_isColumnSet cX5_isColumnSet 1 (some .boolean) :: ([])
def wsX5_letter : List Cond := .code yX5_letter cX5_letter 5 (some .int) :: ([.classLink RX5 54 "java/lang/IllegalArgumentException", .initialized "java/lang/IllegalArgumentException", .classLink RX5 81 "java/lang/IllegalStateException", .initialized "java/lang/IllegalStateException", .fieldLink RX5 19 "Flapline" "book" "LFlapline$Book;", .methodLink RX5 70 yX5_isColumnSet, .static yX5_isColumnSet, .initialized RX5, .code yX5_isColumnSet cX5_isColumnSet 1 (some .boolean), .instanceMethod yX1_addLetter, .initialized RX1, .selects RX1 yX1_addLetter yX1_addLetter, .code yX1_addLetter cX1_addLetter 3 (some .int), .fieldLink RX1 28 "Flapline$Book" "letters" "I", .fieldLink RX1 9 "Flapline$Book" "columnsOfLetters" "[I", .fieldLink RX1 15 "Flapline$Book" "formsOfLetters" "[I", .static yX5_put, .code yX5_put cX5_put 3 none] ++ wsX50 ++ wsX10 ++ (vx_atS RX5 58 "java/lang/IllegalArgumentException" ["java/lang/RuntimeException", "java/lang/Exception"]).filter goodWord ++ (vx_atS RX5 85 "java/lang/IllegalStateException" ["java/lang/RuntimeException", "java/lang/Exception"]).filter goodWord)
def wsX5_list_r1 : List Cond := [Cond.classLink RX5 54 "java/lang/IllegalArgumentException", Cond.initialized "java/lang/IllegalArgumentException", Cond.classLink RX5 81 "java/lang/IllegalStateException", Cond.initialized "java/lang/IllegalStateException", Cond.fieldLink RX5 19 "Flapline" "book" "LFlapline$Book;", Cond.instanceMethod yX1_canSpell, Cond.initialized RX1, Cond.selects RX1 yX1_canSpell yX1_canSpell, Cond.code yX1_canSpell cX1_canSpell 5 (some .boolean), Cond.fieldLink RX1 28 "Flapline$Book" "letters" "I", Cond.instanceMethod yX1_hasRow, Cond.selects RX1 yX1_hasRow yX1_hasRow, Cond.code yX1_hasRow cX1_hasRow 3 (some .boolean), Cond.fieldLink RX1 36 "Flapline$Book" "lines" "I", Cond.fieldLink RX1 18 "Flapline$Book" "rows" "[I", Cond.static yX5_at, Cond.initialized RX5, Cond.code yX5_at cX5_at 2 (some .int), Cond.instanceMethod yX1_addLine, Cond.selects RX1 yX1_addLine yX1_addLine, Cond.code yX1_addLine cX1_addLine 7 (some .int), Cond.fieldLink RX1 9 "Flapline$Book" "columnsOfLetters" "[I", Cond.fieldLink RX1 21 "Flapline$Book" "lengths" "[I", Cond.fieldLink RX1 24 "Flapline$Book" "forms" "[J"]
def wsX5_list_r2 : List Cond := [Cond.methodLink RX1 43 yX1_letterFrom, Cond.instanceMethod yX1_letterFrom, Cond.selects RX1 yX1_letterFrom yX1_letterFrom, Cond.code yX1_letterFrom cX1_letterFrom 3 (some .long), Cond.fieldLink RX1 15 "Flapline$Book" "formsOfLetters" "[I", Cond.static yX5_bitOf, Cond.code yX5_bitOf cX5_bitOf 2 (some .int), Cond.static yX5_put, Cond.code yX5_put cX5_put 3 none, Cond.static yX5_put_, Cond.code yX5_put_ cX5_put_ 4 none]
def wsX5_list : List Cond := .code yX5_list cX5_list 2 (some .int) :: ((wsX5_list_r1 ++ wsX5_list_r2) ++ wsX50 ++ wsX10 ++ (vx_atS RX5 58 "java/lang/IllegalArgumentException" ["java/lang/RuntimeException", "java/lang/Exception"]).filter goodWord ++ (vx_atS RX5 85 "java/lang/IllegalStateException" ["java/lang/RuntimeException", "java/lang/Exception"]).filter goodWord)
def wsX5_needColumn : List Cond := .code yX5_needColumn cX5_needColumn 2 none :: ([.classLink RX5 224 "java/lang/IndexOutOfBoundsException", .initialized "java/lang/IndexOutOfBoundsException", .fieldLink RX5 10 "Flapline" "board" "LFlapline$Board;"] ++ wsX50 ++ wsX00 ++ (vx_atS RX5 228 "java/lang/IndexOutOfBoundsException" ["java/lang/RuntimeException", "java/lang/Exception"]).filter goodWord)
def wsX5_isHeight : List Cond := .code yX5_isHeight cX5_isHeight 1 (some .boolean) :: ([])
def wsX5_needDot : List Cond := .code yX5_needDot cX5_needDot 3 none :: ([.classLink RX5 224 "java/lang/IndexOutOfBoundsException", .initialized "java/lang/IndexOutOfBoundsException", .methodLink RX5 120 yX5_needColumn, .instanceMethod yX5_needColumn, .selects RX5 yX5_needColumn yX5_needColumn, .initialized RX5, .code yX5_needColumn cX5_needColumn 2 none, .fieldLink RX5 10 "Flapline" "board" "LFlapline$Board;", .methodLink RX5 221 yX5_isHeight, .static yX5_isHeight, .code yX5_isHeight cX5_isHeight 1 (some .boolean)] ++ wsX50 ++ wsX00 ++ (vx_atS RX5 228 "java/lang/IndexOutOfBoundsException" ["java/lang/RuntimeException", "java/lang/Exception"]).filter goodWord)
def wsX5_stick_r1 : List Cond := [Cond.classLink RX5 54 "java/lang/IllegalArgumentException", Cond.initialized "java/lang/IllegalArgumentException", Cond.fieldLink RX5 10 "Flapline" "board" "LFlapline$Board;", Cond.methodLink RX5 107 yX5_needDot, Cond.instanceMethod yX5_needDot, Cond.selects RX5 yX5_needDot yX5_needDot, Cond.initialized RX5, Cond.code yX5_needDot cX5_needDot 3 none, Cond.classLink RX5 224 "java/lang/IndexOutOfBoundsException", Cond.initialized "java/lang/IndexOutOfBoundsException", Cond.methodLink RX5 120 yX5_needColumn, Cond.instanceMethod yX5_needColumn, Cond.selects RX5 yX5_needColumn yX5_needColumn, Cond.code yX5_needColumn cX5_needColumn 2 none, Cond.methodLink RX5 221 yX5_isHeight, Cond.static yX5_isHeight, Cond.code yX5_isHeight cX5_isHeight 1 (some .boolean), Cond.instanceMethod yX0_faceOf, Cond.initialized RX0, Cond.selects RX0 yX0_faceOf yX0_faceOf, Cond.code yX0_faceOf cX0_faceOf 3 (some .int), Cond.fieldLink RX0 22 "Flapline$Board" "picture" "J", Cond.static yX5_dotIn, Cond.code yX5_dotIn cX5_dotIn 2 (some .long)]
def wsX5_stick_r2 : List Cond := [Cond.methodLink RX5 199 yX5_bitOf, Cond.static yX5_bitOf, Cond.code yX5_bitOf cX5_bitOf 2 (some .int), Cond.instanceMethod yX0_fix, Cond.selects RX0 yX0_fix yX0_fix, Cond.code yX0_fix cX0_fix 6 none, Cond.fieldLink RX0 26 "Flapline$Board" "stuck" "J", Cond.constantLong RX0 36 (-1), Cond.fieldLink RX0 29 "Flapline$Board" "stuckBright" "J", Cond.methodLink RX0 38 yX0_withStuck, Cond.instanceMethod yX0_withStuck, Cond.selects RX0 yX0_withStuck yX0_withStuck, Cond.code yX0_withStuck cX0_withStuck 3 (some .long)]
def wsX5_stick : List Cond := .code yX5_stick cX5_stick 5 (some .int) :: ((wsX5_stick_r1 ++ wsX5_stick_r2) ++ wsX50 ++ wsX00 ++ (vx_atS RX5 58 "java/lang/IllegalArgumentException" ["java/lang/RuntimeException", "java/lang/Exception"]).filter goodWord ++ (vx_atS RX5 228 "java/lang/IndexOutOfBoundsException" ["java/lang/RuntimeException", "java/lang/Exception"]).filter goodWord)
def wsX5_swap_r1 : List Cond := [Cond.fieldLink RX5 10 "Flapline" "board" "LFlapline$Board;", Cond.methodLink RX5 120 yX5_needColumn, Cond.instanceMethod yX5_needColumn, Cond.selects RX5 yX5_needColumn yX5_needColumn, Cond.initialized RX5, Cond.code yX5_needColumn cX5_needColumn 2 none, Cond.classLink RX5 224 "java/lang/IndexOutOfBoundsException", Cond.initialized "java/lang/IndexOutOfBoundsException", Cond.methodLink RX5 127 yX5_at, Cond.static yX5_at, Cond.code yX5_at cX5_at 2 (some .int), Cond.instanceMethod yX0_renewColumn, Cond.initialized RX0, Cond.selects RX0 yX0_renewColumn yX0_renewColumn, Cond.code yX0_renewColumn cX0_renewColumn 4 none, Cond.constantLong RX0 42 (31), Cond.constantLong RX0 36 (-1), Cond.fieldLink RX0 22 "Flapline$Board" "picture" "J", Cond.fieldLink RX0 26 "Flapline$Board" "stuck" "J", Cond.fieldLink RX0 29 "Flapline$Board" "stuckBright" "J", Cond.fieldLink RX0 15 "Flapline$Board" "wear" "[I", Cond.static yX5_bitOf, Cond.code yX5_bitOf cX5_bitOf 2 (some .int), Cond.static yX5_put]
def wsX5_swap_r2 : List Cond := [Cond.code yX5_put cX5_put 3 none]
def wsX5_swap : List Cond := .code yX5_swap cX5_swap 3 (some .int) :: ((wsX5_swap_r1 ++ wsX5_swap_r2) ++ wsX50 ++ wsX00 ++ (vx_atS RX5 228 "java/lang/IndexOutOfBoundsException" ["java/lang/RuntimeException", "java/lang/Exception"]).filter goodWord)
def wsX5_isLine : List Cond := .code yX5_isLine cX5_isLine 2 (some .boolean) :: ([.fieldLink RX5 19 "Flapline" "book" "LFlapline$Book;"] ++ wsX50 ++ wsX10)
def wsX5_needLine : List Cond := .code yX5_needLine cX5_needLine 2 none :: ([.classLink RX5 224 "java/lang/IndexOutOfBoundsException", .initialized "java/lang/IndexOutOfBoundsException", .methodLink RX5 157 yX5_isLine, .instanceMethod yX5_isLine, .selects RX5 yX5_isLine yX5_isLine, .initialized RX5, .code yX5_isLine cX5_isLine 2 (some .boolean), .fieldLink RX5 19 "Flapline" "book" "LFlapline$Book;"] ++ wsX50 ++ wsX10 ++ (vx_atS RX5 228 "java/lang/IndexOutOfBoundsException" ["java/lang/RuntimeException", "java/lang/Exception"]).filter goodWord)
def wsX5_lastOffset : List Cond := .code yX5_lastOffset cX5_lastOffset 2 (some .int) :: ([.fieldLink RX5 19 "Flapline" "book" "LFlapline$Book;", .fieldLink RX5 10 "Flapline" "board" "LFlapline$Board;"] ++ wsX50 ++ wsX10 ++ wsX00)
def wsX5_harm : List Cond := .code yX5_harm cX5_harm 3 (some .int) :: ([.fieldLink RX5 19 "Flapline" "book" "LFlapline$Book;", .fieldLink RX5 10 "Flapline" "board" "LFlapline$Board;", .instanceMethod yX1_placed, .initialized RX1, .selects RX1 yX1_placed yX1_placed, .code yX1_placed cX1_placed 3 (some .long), .fieldLink RX1 24 "Flapline$Book" "forms" "[J", .methodLink RX5 328 yJ13_bitCount_95d88, .static yJ13_bitCount_95d88, .initialized RJ13, .code yJ13_bitCount_95d88 cJ13_bitCount_95d88 2 (some .int), .constantLong RJ13 314 (6148914691236517205), .constantLong RJ13 316 (3689348814741910323), .constantLong RJ13 318 (1085102592571150095)] ++ wsX50 ++ wsX00 ++ wsX10)
def wsX5_bestOffset : List Cond := .code yX5_bestOffset cX5_bestOffset 6 (some .int) :: ([.methodLink RX5 247 yX5_lastOffset, .instanceMethod yX5_lastOffset, .selects RX5 yX5_lastOffset yX5_lastOffset, .initialized RX5, .code yX5_lastOffset cX5_lastOffset 2 (some .int), .fieldLink RX5 19 "Flapline" "book" "LFlapline$Book;", .fieldLink RX5 10 "Flapline" "board" "LFlapline$Board;", .methodLink RX5 345 yX5_harm, .instanceMethod yX5_harm, .selects RX5 yX5_harm yX5_harm, .code yX5_harm cX5_harm 3 (some .int), .instanceMethod yX1_placed, .initialized RX1, .selects RX1 yX1_placed yX1_placed, .code yX1_placed cX1_placed 3 (some .long), .fieldLink RX1 24 "Flapline$Book" "forms" "[J", .methodLink RX5 328 yJ13_bitCount_95d88, .static yJ13_bitCount_95d88, .initialized RJ13, .code yJ13_bitCount_95d88 cJ13_bitCount_95d88 2 (some .int), .constantLong RJ13 314 (6148914691236517205), .constantLong RJ13 316 (3689348814741910323), .constantLong RJ13 318 (1085102592571150095)] ++ wsX50 ++ wsX10 ++ wsX00)
def wsX5_goalAt : List Cond := .code yX5_goalAt cX5_goalAt 3 (some .long) :: ([.fieldLink RX5 10 "Flapline" "board" "LFlapline$Board;", .fieldLink RX5 19 "Flapline" "book" "LFlapline$Book;", .instanceMethod yX1_placed, .initialized RX1, .selects RX1 yX1_placed yX1_placed, .code yX1_placed cX1_placed 3 (some .long), .fieldLink RX1 24 "Flapline$Book" "forms" "[J", .instanceMethod yX0_withStuck, .initialized RX0, .selects RX0 yX0_withStuck yX0_withStuck, .code yX0_withStuck cX0_withStuck 3 (some .long), .fieldLink RX0 26 "Flapline$Board" "stuck" "J", .constantLong RX0 36 (-1), .fieldLink RX0 29 "Flapline$Board" "stuckBright" "J"] ++ wsX50 ++ wsX10 ++ wsX00)
def wsX5_lesser : List Cond := .code yX5_lesser cX5_lesser 2 (some .int) :: ([])
def wsX5_distance : List Cond := .code yX5_distance cX5_distance 6 (some .int) :: ([.fieldLink RX5 19 "Flapline" "book" "LFlapline$Book;", .methodLink RX5 247 yX5_lastOffset, .instanceMethod yX5_lastOffset, .selects RX5 yX5_lastOffset yX5_lastOffset, .initialized RX5, .code yX5_lastOffset cX5_lastOffset 2 (some .int), .fieldLink RX5 10 "Flapline" "board" "LFlapline$Board;", .instanceMethod yX1_placed, .initialized RX1, .selects RX1 yX1_placed yX1_placed, .code yX1_placed cX1_placed 3 (some .long), .fieldLink RX1 24 "Flapline$Book" "forms" "[J", .methodLink RX5 328 yJ13_bitCount_95d88, .static yJ13_bitCount_95d88, .initialized RJ13, .code yJ13_bitCount_95d88 cJ13_bitCount_95d88 2 (some .int), .constantLong RJ13 314 (6148914691236517205), .constantLong RJ13 316 (3689348814741910323), .constantLong RJ13 318 (1085102592571150095), .methodLink RX5 258 yX5_lesser, .static yX5_lesser, .code yX5_lesser cX5_lesser 2 (some .int)] ++ wsX50 ++ wsX10 ++ wsX00)
def wsX5_says_r1 : List Cond := [Cond.methodLink RX5 254 yX5_distance, Cond.instanceMethod yX5_distance, Cond.selects RX5 yX5_distance yX5_distance, Cond.initialized RX5, Cond.code yX5_distance cX5_distance 6 (some .int), Cond.fieldLink RX5 19 "Flapline" "book" "LFlapline$Book;", Cond.methodLink RX5 247 yX5_lastOffset, Cond.instanceMethod yX5_lastOffset, Cond.selects RX5 yX5_lastOffset yX5_lastOffset, Cond.code yX5_lastOffset cX5_lastOffset 2 (some .int), Cond.fieldLink RX5 10 "Flapline" "board" "LFlapline$Board;", Cond.instanceMethod yX1_placed, Cond.initialized RX1, Cond.selects RX1 yX1_placed yX1_placed, Cond.code yX1_placed cX1_placed 3 (some .long), Cond.fieldLink RX1 24 "Flapline$Book" "forms" "[J", Cond.methodLink RX5 328 yJ13_bitCount_95d88, Cond.static yJ13_bitCount_95d88, Cond.initialized RJ13, Cond.code yJ13_bitCount_95d88 cJ13_bitCount_95d88 2 (some .int), Cond.constantLong RJ13 314 (6148914691236517205), Cond.constantLong RJ13 316 (3689348814741910323), Cond.constantLong RJ13 318 (1085102592571150095), Cond.methodLink RX5 258 yX5_lesser]
def wsX5_says_r2 : List Cond := [Cond.static yX5_lesser, Cond.code yX5_lesser cX5_lesser 2 (some .int)]
def wsX5_says : List Cond := .code yX5_says cX5_says 4 (some .boolean) :: ((wsX5_says_r1 ++ wsX5_says_r2) ++ wsX50 ++ wsX10 ++ wsX00)
def wsX5_forbidPlacesOf : List Cond := .code yX5_forbidPlacesOf cX5_forbidPlacesOf 3 none :: ([.fieldLink RX5 26 "Flapline" "planner" "LFlapline$Planner;", .fieldLink RX5 19 "Flapline" "book" "LFlapline$Book;", .methodLink RX5 247 yX5_lastOffset, .instanceMethod yX5_lastOffset, .selects RX5 yX5_lastOffset yX5_lastOffset, .initialized RX5, .code yX5_lastOffset cX5_lastOffset 2 (some .int), .fieldLink RX5 10 "Flapline" "board" "LFlapline$Board;", .instanceMethod yX1_placed, .initialized RX1, .selects RX1 yX1_placed yX1_placed, .code yX1_placed cX1_placed 3 (some .long), .fieldLink RX1 24 "Flapline$Book" "forms" "[J", .instanceMethod yX2_forbid, .initialized RX2, .selects RX2 yX2_forbid yX2_forbid, .code yX2_forbid cX2_forbid 6 none, .fieldLink RX2 25 "Flapline$Planner" "start" "J", .fieldLink RX2 29 "Flapline$Planner" "goal" "J", .fieldLink RX2 9 "Flapline$Planner" "stepsLeft" "[I", .static yX5_setIn, .code yX5_setIn cX5_setIn 3 (some .int), .static yX5_put, .code yX5_put cX5_put 3 none] ++ wsX50 ++ wsX10 ++ wsX00 ++ wsX20)
def wsX5_makePlan_r1 : List Cond := [Cond.fieldLink RX5 26 "Flapline" "planner" "LFlapline$Planner;", Cond.fieldLink RX5 10 "Flapline" "board" "LFlapline$Board;", Cond.fieldLink RX5 44 "Flapline" "power" "I", Cond.fieldLink RX5 19 "Flapline" "book" "LFlapline$Book;", Cond.methodLink RX5 308 yX5_bestOffset, Cond.instanceMethod yX5_bestOffset, Cond.selects RX5 yX5_bestOffset yX5_bestOffset, Cond.initialized RX5, Cond.code yX5_bestOffset cX5_bestOffset 6 (some .int), Cond.methodLink RX5 247 yX5_lastOffset, Cond.instanceMethod yX5_lastOffset, Cond.selects RX5 yX5_lastOffset yX5_lastOffset, Cond.code yX5_lastOffset cX5_lastOffset 2 (some .int), Cond.methodLink RX5 345 yX5_harm, Cond.instanceMethod yX5_harm, Cond.selects RX5 yX5_harm yX5_harm, Cond.code yX5_harm cX5_harm 3 (some .int), Cond.instanceMethod yX1_placed, Cond.initialized RX1, Cond.selects RX1 yX1_placed yX1_placed, Cond.code yX1_placed cX1_placed 3 (some .long), Cond.fieldLink RX1 24 "Flapline$Book" "forms" "[J", Cond.methodLink RX5 328 yJ13_bitCount_95d88, Cond.static yJ13_bitCount_95d88]
def wsX5_makePlan_r2 : List Cond := [Cond.initialized RJ13, Cond.code yJ13_bitCount_95d88 cJ13_bitCount_95d88 2 (some .int), Cond.constantLong RJ13 314 (6148914691236517205), Cond.constantLong RJ13 316 (3689348814741910323), Cond.constantLong RJ13 318 (1085102592571150095), Cond.instanceMethod yX2_giveUp, Cond.initialized RX2, Cond.selects RX2 yX2_giveUp yX2_giveUp, Cond.code yX2_giveUp cX2_giveUp 1 none, Cond.fieldLink RX2 21 "Flapline$Planner" "steps" "I", Cond.methodLink RX5 348 yX5_goalAt, Cond.instanceMethod yX5_goalAt, Cond.selects RX5 yX5_goalAt yX5_goalAt, Cond.code yX5_goalAt cX5_goalAt 3 (some .long), Cond.instanceMethod yX0_withStuck, Cond.initialized RX0, Cond.selects RX0 yX0_withStuck yX0_withStuck, Cond.code yX0_withStuck cX0_withStuck 3 (some .long), Cond.fieldLink RX0 26 "Flapline$Board" "stuck" "J", Cond.constantLong RX0 36 (-1), Cond.fieldLink RX0 29 "Flapline$Board" "stuckBright" "J", Cond.instanceMethod yX2_begin, Cond.selects RX2 yX2_begin yX2_begin, Cond.code yX2_begin cX2_begin 7 none]
def wsX5_makePlan_r3 : List Cond := [Cond.fieldLink RX2 25 "Flapline$Planner" "start" "J", Cond.fieldLink RX2 29 "Flapline$Planner" "goal" "J", Cond.fieldLink RX2 32 "Flapline$Planner" "power" "I", Cond.fieldLink RX2 35 "Flapline$Planner" "changed" "I", Cond.fieldLink RX2 9 "Flapline$Planner" "stepsLeft" "[I", Cond.static yX5_setIn, Cond.code yX5_setIn cX5_setIn 3 (some .int), Cond.methodLink RX2 42 yX2_countDots, Cond.instanceMethod yX2_countDots, Cond.selects RX2 yX2_countDots yX2_countDots, Cond.code yX2_countDots cX2_countDots 4 none, Cond.fieldLink RX2 15 "Flapline$Planner" "dotsIn" "[I", Cond.methodLink RX2 45 yJ6_bitCount_0f7a4, Cond.static yJ6_bitCount_0f7a4, Cond.initialized RJ6, Cond.code yJ6_bitCount_0f7a4 cJ6_bitCount_0f7a4 1 (some .int), Cond.constant RJ6 265 (1431655765), Cond.constant RJ6 266 (858993459), Cond.constant RJ6 267 (252645135), Cond.static yX5_at, Cond.code yX5_at cX5_at 2 (some .int), Cond.methodLink RX5 314 yX5_says, Cond.instanceMethod yX5_says, Cond.selects RX5 yX5_says yX5_says]
def wsX5_makePlan_r4 : List Cond := [Cond.code yX5_says cX5_says 4 (some .boolean), Cond.methodLink RX5 254 yX5_distance, Cond.instanceMethod yX5_distance, Cond.selects RX5 yX5_distance yX5_distance, Cond.code yX5_distance cX5_distance 6 (some .int), Cond.methodLink RX5 258 yX5_lesser, Cond.static yX5_lesser, Cond.code yX5_lesser cX5_lesser 2 (some .int), Cond.methodLink RX5 368 yX5_forbidPlacesOf, Cond.instanceMethod yX5_forbidPlacesOf, Cond.selects RX5 yX5_forbidPlacesOf yX5_forbidPlacesOf, Cond.code yX5_forbidPlacesOf cX5_forbidPlacesOf 3 none, Cond.instanceMethod yX2_forbid, Cond.selects RX2 yX2_forbid yX2_forbid, Cond.code yX2_forbid cX2_forbid 6 none, Cond.static yX5_put, Cond.code yX5_put cX5_put 3 none, Cond.instanceMethod yX2_choose, Cond.selects RX2 yX2_choose yX2_choose, Cond.code yX2_choose cX2_choose 4 none, Cond.fieldLink RX2 18 "Flapline$Planner" "plan" "[I", Cond.methodLink RX2 59 yX2_fewestFrom, Cond.instanceMethod yX2_fewestFrom, Cond.selects RX2 yX2_fewestFrom yX2_fewestFrom]
def wsX5_makePlan_r5 : List Cond := [Cond.code yX2_fewestFrom cX2_fewestFrom 6 (some .int), Cond.methodLink RX2 65 yX2_canBeOneStep, Cond.instanceMethod yX2_canBeOneStep, Cond.selects RX2 yX2_canBeOneStep yX2_canBeOneStep, Cond.code yX2_canBeOneStep cX2_canBeOneStep 3 (some .boolean), Cond.methodLink RX2 62 yX2_smallestFrom, Cond.instanceMethod yX2_smallestFrom, Cond.selects RX2 yX2_smallestFrom yX2_smallestFrom, Cond.code yX2_smallestFrom cX2_smallestFrom 5 (some .int)]
def wsX5_makePlan : List Cond := .code yX5_makePlan cX5_makePlan 4 none :: ((wsX5_makePlan_r1 ++ (wsX5_makePlan_r2 ++ (wsX5_makePlan_r3 ++ (wsX5_makePlan_r4 ++ wsX5_makePlan_r5)))) ++ wsX50 ++ wsX00 ++ wsX10 ++ wsX20)
def wsX5_bringUp_r1 : List Cond := [Cond.fieldLink RX5 26 "Flapline" "planner" "LFlapline$Planner;", Cond.fieldLink RX5 10 "Flapline" "board" "LFlapline$Board;", Cond.fieldLink RX5 335 "Flapline" "stepsEver" "I", Cond.fieldLink RX5 51 "Flapline" "shownLast" "I", Cond.methodLink RX5 210 yX5_makePlan, Cond.instanceMethod yX5_makePlan, Cond.selects RX5 yX5_makePlan yX5_makePlan, Cond.initialized RX5, Cond.code yX5_makePlan cX5_makePlan 4 none, Cond.fieldLink RX5 44 "Flapline" "power" "I", Cond.fieldLink RX5 19 "Flapline" "book" "LFlapline$Book;", Cond.methodLink RX5 308 yX5_bestOffset, Cond.instanceMethod yX5_bestOffset, Cond.selects RX5 yX5_bestOffset yX5_bestOffset, Cond.code yX5_bestOffset cX5_bestOffset 6 (some .int), Cond.methodLink RX5 247 yX5_lastOffset, Cond.instanceMethod yX5_lastOffset, Cond.selects RX5 yX5_lastOffset yX5_lastOffset, Cond.code yX5_lastOffset cX5_lastOffset 2 (some .int), Cond.methodLink RX5 345 yX5_harm, Cond.instanceMethod yX5_harm, Cond.selects RX5 yX5_harm yX5_harm, Cond.code yX5_harm cX5_harm 3 (some .int), Cond.instanceMethod yX1_placed]
def wsX5_bringUp_r2 : List Cond := [Cond.initialized RX1, Cond.selects RX1 yX1_placed yX1_placed, Cond.code yX1_placed cX1_placed 3 (some .long), Cond.fieldLink RX1 24 "Flapline$Book" "forms" "[J", Cond.methodLink RX5 328 yJ13_bitCount_95d88, Cond.static yJ13_bitCount_95d88, Cond.initialized RJ13, Cond.code yJ13_bitCount_95d88 cJ13_bitCount_95d88 2 (some .int), Cond.constantLong RJ13 314 (6148914691236517205), Cond.constantLong RJ13 316 (3689348814741910323), Cond.constantLong RJ13 318 (1085102592571150095), Cond.instanceMethod yX2_giveUp, Cond.initialized RX2, Cond.selects RX2 yX2_giveUp yX2_giveUp, Cond.code yX2_giveUp cX2_giveUp 1 none, Cond.fieldLink RX2 21 "Flapline$Planner" "steps" "I", Cond.methodLink RX5 348 yX5_goalAt, Cond.instanceMethod yX5_goalAt, Cond.selects RX5 yX5_goalAt yX5_goalAt, Cond.code yX5_goalAt cX5_goalAt 3 (some .long), Cond.instanceMethod yX0_withStuck, Cond.initialized RX0, Cond.selects RX0 yX0_withStuck yX0_withStuck, Cond.code yX0_withStuck cX0_withStuck 3 (some .long)]
def wsX5_bringUp_r3 : List Cond := [Cond.fieldLink RX0 26 "Flapline$Board" "stuck" "J", Cond.constantLong RX0 36 (-1), Cond.fieldLink RX0 29 "Flapline$Board" "stuckBright" "J", Cond.instanceMethod yX2_begin, Cond.selects RX2 yX2_begin yX2_begin, Cond.code yX2_begin cX2_begin 7 none, Cond.fieldLink RX2 25 "Flapline$Planner" "start" "J", Cond.fieldLink RX2 29 "Flapline$Planner" "goal" "J", Cond.fieldLink RX2 32 "Flapline$Planner" "power" "I", Cond.fieldLink RX2 35 "Flapline$Planner" "changed" "I", Cond.fieldLink RX2 9 "Flapline$Planner" "stepsLeft" "[I", Cond.static yX5_setIn, Cond.code yX5_setIn cX5_setIn 3 (some .int), Cond.methodLink RX2 42 yX2_countDots, Cond.instanceMethod yX2_countDots, Cond.selects RX2 yX2_countDots yX2_countDots, Cond.code yX2_countDots cX2_countDots 4 none, Cond.fieldLink RX2 15 "Flapline$Planner" "dotsIn" "[I", Cond.methodLink RX2 45 yJ6_bitCount_0f7a4, Cond.static yJ6_bitCount_0f7a4, Cond.initialized RJ6, Cond.code yJ6_bitCount_0f7a4 cJ6_bitCount_0f7a4 1 (some .int), Cond.constant RJ6 265 (1431655765), Cond.constant RJ6 266 (858993459)]
def wsX5_bringUp_r4 : List Cond := [Cond.constant RJ6 267 (252645135), Cond.static yX5_at, Cond.code yX5_at cX5_at 2 (some .int), Cond.methodLink RX5 314 yX5_says, Cond.instanceMethod yX5_says, Cond.selects RX5 yX5_says yX5_says, Cond.code yX5_says cX5_says 4 (some .boolean), Cond.methodLink RX5 254 yX5_distance, Cond.instanceMethod yX5_distance, Cond.selects RX5 yX5_distance yX5_distance, Cond.code yX5_distance cX5_distance 6 (some .int), Cond.methodLink RX5 258 yX5_lesser, Cond.static yX5_lesser, Cond.code yX5_lesser cX5_lesser 2 (some .int), Cond.methodLink RX5 368 yX5_forbidPlacesOf, Cond.instanceMethod yX5_forbidPlacesOf, Cond.selects RX5 yX5_forbidPlacesOf yX5_forbidPlacesOf, Cond.code yX5_forbidPlacesOf cX5_forbidPlacesOf 3 none, Cond.instanceMethod yX2_forbid, Cond.selects RX2 yX2_forbid yX2_forbid, Cond.code yX2_forbid cX2_forbid 6 none, Cond.static yX5_put, Cond.code yX5_put cX5_put 3 none, Cond.instanceMethod yX2_choose]
def wsX5_bringUp_r5 : List Cond := [Cond.selects RX2 yX2_choose yX2_choose, Cond.code yX2_choose cX2_choose 4 none, Cond.fieldLink RX2 18 "Flapline$Planner" "plan" "[I", Cond.methodLink RX2 59 yX2_fewestFrom, Cond.instanceMethod yX2_fewestFrom, Cond.selects RX2 yX2_fewestFrom yX2_fewestFrom, Cond.code yX2_fewestFrom cX2_fewestFrom 6 (some .int), Cond.methodLink RX2 65 yX2_canBeOneStep, Cond.instanceMethod yX2_canBeOneStep, Cond.selects RX2 yX2_canBeOneStep yX2_canBeOneStep, Cond.code yX2_canBeOneStep cX2_canBeOneStep 3 (some .boolean), Cond.methodLink RX2 62 yX2_smallestFrom, Cond.instanceMethod yX2_smallestFrom, Cond.selects RX2 yX2_smallestFrom yX2_smallestFrom, Cond.code yX2_smallestFrom cX2_smallestFrom 5 (some .int), Cond.instanceMethod yX0_turnTo, Cond.selects RX0 yX0_turnTo yX0_turnTo, Cond.code yX0_turnTo cX0_turnTo 6 none, Cond.fieldLink RX0 22 "Flapline$Board" "picture" "J", Cond.fieldLink RX0 18 "Flapline$Board" "columns" "I", Cond.fieldLink RX0 15 "Flapline$Board" "wear" "[I", Cond.fieldLink RX0 9 "Flapline$Board" "flips" "[I", Cond.methodLink RX0 60 yJ6_bitCount_0f7a4]
def wsX5_bringUp : List Cond := .code yX5_bringUp cX5_bringUp 2 (some .int) :: ((wsX5_bringUp_r1 ++ (wsX5_bringUp_r2 ++ (wsX5_bringUp_r3 ++ (wsX5_bringUp_r4 ++ wsX5_bringUp_r5)))) ++ wsX50 ++ wsX20 ++ wsX00 ++ wsX10)
def wsX5_show_r1 : List Cond := [Cond.methodLink RX5 134 yX5_needLine, Cond.instanceMethod yX5_needLine, Cond.selects RX5 yX5_needLine yX5_needLine, Cond.initialized RX5, Cond.code yX5_needLine cX5_needLine 2 none, Cond.classLink RX5 224 "java/lang/IndexOutOfBoundsException", Cond.initialized "java/lang/IndexOutOfBoundsException", Cond.methodLink RX5 157 yX5_isLine, Cond.instanceMethod yX5_isLine, Cond.selects RX5 yX5_isLine yX5_isLine, Cond.code yX5_isLine cX5_isLine 2 (some .boolean), Cond.fieldLink RX5 19 "Flapline" "book" "LFlapline$Book;", Cond.methodLink RX5 137 yX5_bringUp, Cond.instanceMethod yX5_bringUp, Cond.selects RX5 yX5_bringUp yX5_bringUp, Cond.code yX5_bringUp cX5_bringUp 2 (some .int), Cond.fieldLink RX5 26 "Flapline" "planner" "LFlapline$Planner;", Cond.fieldLink RX5 10 "Flapline" "board" "LFlapline$Board;", Cond.fieldLink RX5 335 "Flapline" "stepsEver" "I", Cond.fieldLink RX5 51 "Flapline" "shownLast" "I", Cond.methodLink RX5 210 yX5_makePlan, Cond.instanceMethod yX5_makePlan, Cond.selects RX5 yX5_makePlan yX5_makePlan, Cond.code yX5_makePlan cX5_makePlan 4 none]
def wsX5_show_r2 : List Cond := [Cond.fieldLink RX5 44 "Flapline" "power" "I", Cond.methodLink RX5 308 yX5_bestOffset, Cond.instanceMethod yX5_bestOffset, Cond.selects RX5 yX5_bestOffset yX5_bestOffset, Cond.code yX5_bestOffset cX5_bestOffset 6 (some .int), Cond.methodLink RX5 247 yX5_lastOffset, Cond.instanceMethod yX5_lastOffset, Cond.selects RX5 yX5_lastOffset yX5_lastOffset, Cond.code yX5_lastOffset cX5_lastOffset 2 (some .int), Cond.methodLink RX5 345 yX5_harm, Cond.instanceMethod yX5_harm, Cond.selects RX5 yX5_harm yX5_harm, Cond.code yX5_harm cX5_harm 3 (some .int), Cond.instanceMethod yX1_placed, Cond.initialized RX1, Cond.selects RX1 yX1_placed yX1_placed, Cond.code yX1_placed cX1_placed 3 (some .long), Cond.fieldLink RX1 24 "Flapline$Book" "forms" "[J", Cond.methodLink RX5 328 yJ13_bitCount_95d88, Cond.static yJ13_bitCount_95d88, Cond.initialized RJ13, Cond.code yJ13_bitCount_95d88 cJ13_bitCount_95d88 2 (some .int), Cond.constantLong RJ13 314 (6148914691236517205), Cond.constantLong RJ13 316 (3689348814741910323)]
def wsX5_show_r3 : List Cond := [Cond.constantLong RJ13 318 (1085102592571150095), Cond.instanceMethod yX2_giveUp, Cond.initialized RX2, Cond.selects RX2 yX2_giveUp yX2_giveUp, Cond.code yX2_giveUp cX2_giveUp 1 none, Cond.fieldLink RX2 21 "Flapline$Planner" "steps" "I", Cond.methodLink RX5 348 yX5_goalAt, Cond.instanceMethod yX5_goalAt, Cond.selects RX5 yX5_goalAt yX5_goalAt, Cond.code yX5_goalAt cX5_goalAt 3 (some .long), Cond.instanceMethod yX0_withStuck, Cond.initialized RX0, Cond.selects RX0 yX0_withStuck yX0_withStuck, Cond.code yX0_withStuck cX0_withStuck 3 (some .long), Cond.fieldLink RX0 26 "Flapline$Board" "stuck" "J", Cond.constantLong RX0 36 (-1), Cond.fieldLink RX0 29 "Flapline$Board" "stuckBright" "J", Cond.instanceMethod yX2_begin, Cond.selects RX2 yX2_begin yX2_begin, Cond.code yX2_begin cX2_begin 7 none, Cond.fieldLink RX2 25 "Flapline$Planner" "start" "J", Cond.fieldLink RX2 29 "Flapline$Planner" "goal" "J", Cond.fieldLink RX2 32 "Flapline$Planner" "power" "I", Cond.fieldLink RX2 35 "Flapline$Planner" "changed" "I"]
def wsX5_show_r4 : List Cond := [Cond.fieldLink RX2 9 "Flapline$Planner" "stepsLeft" "[I", Cond.static yX5_setIn, Cond.code yX5_setIn cX5_setIn 3 (some .int), Cond.methodLink RX2 42 yX2_countDots, Cond.instanceMethod yX2_countDots, Cond.selects RX2 yX2_countDots yX2_countDots, Cond.code yX2_countDots cX2_countDots 4 none, Cond.fieldLink RX2 15 "Flapline$Planner" "dotsIn" "[I", Cond.methodLink RX2 45 yJ6_bitCount_0f7a4, Cond.static yJ6_bitCount_0f7a4, Cond.initialized RJ6, Cond.code yJ6_bitCount_0f7a4 cJ6_bitCount_0f7a4 1 (some .int), Cond.constant RJ6 265 (1431655765), Cond.constant RJ6 266 (858993459), Cond.constant RJ6 267 (252645135), Cond.static yX5_at, Cond.code yX5_at cX5_at 2 (some .int), Cond.methodLink RX5 314 yX5_says, Cond.instanceMethod yX5_says, Cond.selects RX5 yX5_says yX5_says, Cond.code yX5_says cX5_says 4 (some .boolean), Cond.methodLink RX5 254 yX5_distance, Cond.instanceMethod yX5_distance, Cond.selects RX5 yX5_distance yX5_distance]
def wsX5_show_r5 : List Cond := [Cond.code yX5_distance cX5_distance 6 (some .int), Cond.methodLink RX5 258 yX5_lesser, Cond.static yX5_lesser, Cond.code yX5_lesser cX5_lesser 2 (some .int), Cond.methodLink RX5 368 yX5_forbidPlacesOf, Cond.instanceMethod yX5_forbidPlacesOf, Cond.selects RX5 yX5_forbidPlacesOf yX5_forbidPlacesOf, Cond.code yX5_forbidPlacesOf cX5_forbidPlacesOf 3 none, Cond.instanceMethod yX2_forbid, Cond.selects RX2 yX2_forbid yX2_forbid, Cond.code yX2_forbid cX2_forbid 6 none, Cond.static yX5_put, Cond.code yX5_put cX5_put 3 none, Cond.instanceMethod yX2_choose, Cond.selects RX2 yX2_choose yX2_choose, Cond.code yX2_choose cX2_choose 4 none, Cond.fieldLink RX2 18 "Flapline$Planner" "plan" "[I", Cond.methodLink RX2 59 yX2_fewestFrom, Cond.instanceMethod yX2_fewestFrom, Cond.selects RX2 yX2_fewestFrom yX2_fewestFrom, Cond.code yX2_fewestFrom cX2_fewestFrom 6 (some .int), Cond.methodLink RX2 65 yX2_canBeOneStep, Cond.instanceMethod yX2_canBeOneStep, Cond.selects RX2 yX2_canBeOneStep yX2_canBeOneStep]
def wsX5_show_r6 : List Cond := [Cond.code yX2_canBeOneStep cX2_canBeOneStep 3 (some .boolean), Cond.methodLink RX2 62 yX2_smallestFrom, Cond.instanceMethod yX2_smallestFrom, Cond.selects RX2 yX2_smallestFrom yX2_smallestFrom, Cond.code yX2_smallestFrom cX2_smallestFrom 5 (some .int), Cond.instanceMethod yX0_turnTo, Cond.selects RX0 yX0_turnTo yX0_turnTo, Cond.code yX0_turnTo cX0_turnTo 6 none, Cond.fieldLink RX0 22 "Flapline$Board" "picture" "J", Cond.fieldLink RX0 18 "Flapline$Board" "columns" "I", Cond.fieldLink RX0 15 "Flapline$Board" "wear" "[I", Cond.fieldLink RX0 9 "Flapline$Board" "flips" "[I", Cond.methodLink RX0 60 yJ6_bitCount_0f7a4]
def wsX5_show : List Cond := .code yX5_show cX5_show 2 (some .int) :: ((wsX5_show_r1 ++ (wsX5_show_r2 ++ (wsX5_show_r3 ++ (wsX5_show_r4 ++ (wsX5_show_r5 ++ wsX5_show_r6))))) ++ wsX50 ++ wsX10 ++ wsX20 ++ wsX00 ++ (vx_atS RX5 228 "java/lang/IndexOutOfBoundsException" ["java/lang/RuntimeException", "java/lang/Exception"]).filter goodWord)
def wsX5_dot_r1 : List Cond := [Cond.classLink RX5 54 "java/lang/IllegalArgumentException", Cond.initialized "java/lang/IllegalArgumentException", Cond.fieldLink RX5 10 "Flapline" "board" "LFlapline$Board;", Cond.methodLink RX5 107 yX5_needDot, Cond.instanceMethod yX5_needDot, Cond.selects RX5 yX5_needDot yX5_needDot, Cond.initialized RX5, Cond.code yX5_needDot cX5_needDot 3 none, Cond.classLink RX5 224 "java/lang/IndexOutOfBoundsException", Cond.initialized "java/lang/IndexOutOfBoundsException", Cond.methodLink RX5 120 yX5_needColumn, Cond.instanceMethod yX5_needColumn, Cond.selects RX5 yX5_needColumn yX5_needColumn, Cond.code yX5_needColumn cX5_needColumn 2 none, Cond.methodLink RX5 221 yX5_isHeight, Cond.static yX5_isHeight, Cond.code yX5_isHeight cX5_isHeight 1 (some .boolean), Cond.instanceMethod yX0_faceOf, Cond.initialized RX0, Cond.selects RX0 yX0_faceOf yX0_faceOf, Cond.code yX0_faceOf cX0_faceOf 3 (some .int), Cond.fieldLink RX0 22 "Flapline$Board" "picture" "J", Cond.static yX5_dotIn, Cond.code yX5_dotIn cX5_dotIn 2 (some .long)]
def wsX5_dot_r2 : List Cond := [Cond.methodLink RX5 199 yX5_bitOf, Cond.static yX5_bitOf, Cond.code yX5_bitOf cX5_bitOf 2 (some .int), Cond.methodLink RX5 127 yX5_at, Cond.static yX5_at, Cond.code yX5_at cX5_at 2 (some .int), Cond.instanceMethod yX0_stuckFaceOf, Cond.selects RX0 yX0_stuckFaceOf yX0_stuckFaceOf, Cond.code yX0_stuckFaceOf cX0_stuckFaceOf 5 (some .int), Cond.fieldLink RX0 26 "Flapline$Board" "stuck" "J", Cond.fieldLink RX0 29 "Flapline$Board" "stuckBright" "J"]
def wsX5_dot : List Cond := .code yX5_dot cX5_dot 4 (some .int) :: ((wsX5_dot_r1 ++ wsX5_dot_r2) ++ wsX50 ++ wsX00 ++ (vx_atS RX5 58 "java/lang/IllegalArgumentException" ["java/lang/RuntimeException", "java/lang/Exception"]).filter goodWord ++ (vx_atS RX5 228 "java/lang/IndexOutOfBoundsException" ["java/lang/RuntimeException", "java/lang/Exception"]).filter goodWord)
def wsX5_columnFact : List Cond := .code yX5_columnFact cX5_columnFact 3 (some .int) :: ([.fieldLink RX5 10 "Flapline" "board" "LFlapline$Board;", .methodLink RX5 291 yX5_setIn, .static yX5_setIn, .initialized RX5, .code yX5_setIn cX5_setIn 3 (some .int), .methodLink RX5 127 yX5_at, .static yX5_at, .code yX5_at cX5_at 2 (some .int), .methodLink RX5 297 yJ6_bitCount_0f7a4, .static yJ6_bitCount_0f7a4, .initialized RJ6, .code yJ6_bitCount_0f7a4 cJ6_bitCount_0f7a4 1 (some .int), .constant RJ6 265 (1431655765), .constant RJ6 266 (858993459), .constant RJ6 267 (252645135)] ++ wsX50 ++ wsX00)
def wsX5_column_r1 : List Cond := [Cond.classLink RX5 54 "java/lang/IllegalArgumentException", Cond.initialized "java/lang/IllegalArgumentException", Cond.methodLink RX5 120 yX5_needColumn, Cond.instanceMethod yX5_needColumn, Cond.selects RX5 yX5_needColumn yX5_needColumn, Cond.initialized RX5, Cond.code yX5_needColumn cX5_needColumn 2 none, Cond.classLink RX5 224 "java/lang/IndexOutOfBoundsException", Cond.initialized "java/lang/IndexOutOfBoundsException", Cond.fieldLink RX5 10 "Flapline" "board" "LFlapline$Board;", Cond.methodLink RX5 205 yX5_columnFact, Cond.instanceMethod yX5_columnFact, Cond.selects RX5 yX5_columnFact yX5_columnFact, Cond.code yX5_columnFact cX5_columnFact 3 (some .int), Cond.methodLink RX5 291 yX5_setIn, Cond.static yX5_setIn, Cond.code yX5_setIn cX5_setIn 3 (some .int), Cond.methodLink RX5 127 yX5_at, Cond.static yX5_at, Cond.code yX5_at cX5_at 2 (some .int), Cond.methodLink RX5 297 yJ6_bitCount_0f7a4, Cond.static yJ6_bitCount_0f7a4, Cond.initialized RJ6, Cond.code yJ6_bitCount_0f7a4 cJ6_bitCount_0f7a4 1 (some .int)]
def wsX5_column_r2 : List Cond := [Cond.constant RJ6 265 (1431655765), Cond.constant RJ6 266 (858993459), Cond.constant RJ6 267 (252645135)]
def wsX5_column : List Cond := .code yX5_column cX5_column 3 (some .int) :: ((wsX5_column_r1 ++ wsX5_column_r2) ++ wsX50 ++ wsX00 ++ (vx_atS RX5 58 "java/lang/IllegalArgumentException" ["java/lang/RuntimeException", "java/lang/Exception"]).filter goodWord ++ (vx_atS RX5 228 "java/lang/IndexOutOfBoundsException" ["java/lang/RuntimeException", "java/lang/Exception"]).filter goodWord)
def wsX5_leastHarm_r1 : List Cond := [Cond.methodLink RX5 308 yX5_bestOffset, Cond.instanceMethod yX5_bestOffset, Cond.selects RX5 yX5_bestOffset yX5_bestOffset, Cond.initialized RX5, Cond.code yX5_bestOffset cX5_bestOffset 6 (some .int), Cond.methodLink RX5 247 yX5_lastOffset, Cond.instanceMethod yX5_lastOffset, Cond.selects RX5 yX5_lastOffset yX5_lastOffset, Cond.code yX5_lastOffset cX5_lastOffset 2 (some .int), Cond.fieldLink RX5 19 "Flapline" "book" "LFlapline$Book;", Cond.fieldLink RX5 10 "Flapline" "board" "LFlapline$Board;", Cond.methodLink RX5 345 yX5_harm, Cond.instanceMethod yX5_harm, Cond.selects RX5 yX5_harm yX5_harm, Cond.code yX5_harm cX5_harm 3 (some .int), Cond.instanceMethod yX1_placed, Cond.initialized RX1, Cond.selects RX1 yX1_placed yX1_placed, Cond.code yX1_placed cX1_placed 3 (some .long), Cond.fieldLink RX1 24 "Flapline$Book" "forms" "[J", Cond.methodLink RX5 328 yJ13_bitCount_95d88, Cond.static yJ13_bitCount_95d88, Cond.initialized RJ13, Cond.code yJ13_bitCount_95d88 cJ13_bitCount_95d88 2 (some .int)]
def wsX5_leastHarm_r2 : List Cond := [Cond.constantLong RJ13 314 (6148914691236517205), Cond.constantLong RJ13 316 (3689348814741910323), Cond.constantLong RJ13 318 (1085102592571150095)]
def wsX5_leastHarm : List Cond := .code yX5_leastHarm cX5_leastHarm 3 (some .int) :: ((wsX5_leastHarm_r1 ++ wsX5_leastHarm_r2) ++ wsX50 ++ wsX10 ++ wsX00)
def wsX5_lineFact_r1 : List Cond := [Cond.fieldLink RX5 19 "Flapline" "book" "LFlapline$Book;", Cond.fieldLink RX5 10 "Flapline" "board" "LFlapline$Board;", Cond.fieldLink RX5 26 "Flapline" "planner" "LFlapline$Planner;", Cond.methodLink RX5 127 yX5_at, Cond.static yX5_at, Cond.initialized RX5, Cond.code yX5_at cX5_at 2 (some .int), Cond.methodLink RX5 308 yX5_bestOffset, Cond.instanceMethod yX5_bestOffset, Cond.selects RX5 yX5_bestOffset yX5_bestOffset, Cond.code yX5_bestOffset cX5_bestOffset 6 (some .int), Cond.methodLink RX5 247 yX5_lastOffset, Cond.instanceMethod yX5_lastOffset, Cond.selects RX5 yX5_lastOffset yX5_lastOffset, Cond.code yX5_lastOffset cX5_lastOffset 2 (some .int), Cond.methodLink RX5 345 yX5_harm, Cond.instanceMethod yX5_harm, Cond.selects RX5 yX5_harm yX5_harm, Cond.code yX5_harm cX5_harm 3 (some .int), Cond.instanceMethod yX1_placed, Cond.initialized RX1, Cond.selects RX1 yX1_placed yX1_placed, Cond.code yX1_placed cX1_placed 3 (some .long), Cond.fieldLink RX1 24 "Flapline$Book" "forms" "[J"]
def wsX5_lineFact_r2 : List Cond := [Cond.methodLink RX5 328 yJ13_bitCount_95d88, Cond.static yJ13_bitCount_95d88, Cond.initialized RJ13, Cond.code yJ13_bitCount_95d88 cJ13_bitCount_95d88 2 (some .int), Cond.constantLong RJ13 314 (6148914691236517205), Cond.constantLong RJ13 316 (3689348814741910323), Cond.constantLong RJ13 318 (1085102592571150095), Cond.methodLink RX5 311 yX5_leastHarm, Cond.instanceMethod yX5_leastHarm, Cond.selects RX5 yX5_leastHarm yX5_leastHarm, Cond.code yX5_leastHarm cX5_leastHarm 3 (some .int), Cond.methodLink RX5 254 yX5_distance, Cond.instanceMethod yX5_distance, Cond.selects RX5 yX5_distance yX5_distance, Cond.code yX5_distance cX5_distance 6 (some .int), Cond.methodLink RX5 258 yX5_lesser, Cond.static yX5_lesser, Cond.code yX5_lesser cX5_lesser 2 (some .int), Cond.methodLink RX5 314 yX5_says, Cond.instanceMethod yX5_says, Cond.selects RX5 yX5_says yX5_says, Cond.code yX5_says cX5_says 4 (some .boolean), Cond.instanceMethod yX2_flips, Cond.initialized RX2]
def wsX5_lineFact_r3 : List Cond := [Cond.selects RX2 yX2_flips yX2_flips, Cond.code yX2_flips cX2_flips 1 (some .int), Cond.fieldLink RX2 21 "Flapline$Planner" "steps" "I", Cond.fieldLink RX2 25 "Flapline$Planner" "start" "J", Cond.fieldLink RX2 29 "Flapline$Planner" "goal" "J", Cond.methodLink RX2 69 yJ13_bitCount_95d88]
def wsX5_lineFact : List Cond := .code yX5_lineFact cX5_lineFact 3 (some .int) :: ((wsX5_lineFact_r1 ++ (wsX5_lineFact_r2 ++ wsX5_lineFact_r3)) ++ wsX50 ++ wsX10 ++ wsX00 ++ wsX20)
def wsX5_ofLine_r1 : List Cond := [Cond.classLink RX5 54 "java/lang/IllegalArgumentException", Cond.initialized "java/lang/IllegalArgumentException", Cond.methodLink RX5 134 yX5_needLine, Cond.instanceMethod yX5_needLine, Cond.selects RX5 yX5_needLine yX5_needLine, Cond.initialized RX5, Cond.code yX5_needLine cX5_needLine 2 none, Cond.classLink RX5 224 "java/lang/IndexOutOfBoundsException", Cond.initialized "java/lang/IndexOutOfBoundsException", Cond.methodLink RX5 157 yX5_isLine, Cond.instanceMethod yX5_isLine, Cond.selects RX5 yX5_isLine yX5_isLine, Cond.code yX5_isLine cX5_isLine 2 (some .boolean), Cond.fieldLink RX5 19 "Flapline" "book" "LFlapline$Book;", Cond.methodLink RX5 210 yX5_makePlan, Cond.instanceMethod yX5_makePlan, Cond.selects RX5 yX5_makePlan yX5_makePlan, Cond.code yX5_makePlan cX5_makePlan 4 none, Cond.fieldLink RX5 26 "Flapline" "planner" "LFlapline$Planner;", Cond.fieldLink RX5 10 "Flapline" "board" "LFlapline$Board;", Cond.fieldLink RX5 44 "Flapline" "power" "I", Cond.methodLink RX5 308 yX5_bestOffset, Cond.instanceMethod yX5_bestOffset, Cond.selects RX5 yX5_bestOffset yX5_bestOffset]
def wsX5_ofLine_r2 : List Cond := [Cond.code yX5_bestOffset cX5_bestOffset 6 (some .int), Cond.methodLink RX5 247 yX5_lastOffset, Cond.instanceMethod yX5_lastOffset, Cond.selects RX5 yX5_lastOffset yX5_lastOffset, Cond.code yX5_lastOffset cX5_lastOffset 2 (some .int), Cond.methodLink RX5 345 yX5_harm, Cond.instanceMethod yX5_harm, Cond.selects RX5 yX5_harm yX5_harm, Cond.code yX5_harm cX5_harm 3 (some .int), Cond.instanceMethod yX1_placed, Cond.initialized RX1, Cond.selects RX1 yX1_placed yX1_placed, Cond.code yX1_placed cX1_placed 3 (some .long), Cond.fieldLink RX1 24 "Flapline$Book" "forms" "[J", Cond.methodLink RX5 328 yJ13_bitCount_95d88, Cond.static yJ13_bitCount_95d88, Cond.initialized RJ13, Cond.code yJ13_bitCount_95d88 cJ13_bitCount_95d88 2 (some .int), Cond.constantLong RJ13 314 (6148914691236517205), Cond.constantLong RJ13 316 (3689348814741910323), Cond.constantLong RJ13 318 (1085102592571150095), Cond.instanceMethod yX2_giveUp, Cond.initialized RX2, Cond.selects RX2 yX2_giveUp yX2_giveUp]
def wsX5_ofLine_r3 : List Cond := [Cond.code yX2_giveUp cX2_giveUp 1 none, Cond.fieldLink RX2 21 "Flapline$Planner" "steps" "I", Cond.methodLink RX5 348 yX5_goalAt, Cond.instanceMethod yX5_goalAt, Cond.selects RX5 yX5_goalAt yX5_goalAt, Cond.code yX5_goalAt cX5_goalAt 3 (some .long), Cond.instanceMethod yX0_withStuck, Cond.initialized RX0, Cond.selects RX0 yX0_withStuck yX0_withStuck, Cond.code yX0_withStuck cX0_withStuck 3 (some .long), Cond.fieldLink RX0 26 "Flapline$Board" "stuck" "J", Cond.constantLong RX0 36 (-1), Cond.fieldLink RX0 29 "Flapline$Board" "stuckBright" "J", Cond.instanceMethod yX2_begin, Cond.selects RX2 yX2_begin yX2_begin, Cond.code yX2_begin cX2_begin 7 none, Cond.fieldLink RX2 25 "Flapline$Planner" "start" "J", Cond.fieldLink RX2 29 "Flapline$Planner" "goal" "J", Cond.fieldLink RX2 32 "Flapline$Planner" "power" "I", Cond.fieldLink RX2 35 "Flapline$Planner" "changed" "I", Cond.fieldLink RX2 9 "Flapline$Planner" "stepsLeft" "[I", Cond.static yX5_setIn, Cond.code yX5_setIn cX5_setIn 3 (some .int), Cond.methodLink RX2 42 yX2_countDots]
def wsX5_ofLine_r4 : List Cond := [Cond.instanceMethod yX2_countDots, Cond.selects RX2 yX2_countDots yX2_countDots, Cond.code yX2_countDots cX2_countDots 4 none, Cond.fieldLink RX2 15 "Flapline$Planner" "dotsIn" "[I", Cond.methodLink RX2 45 yJ6_bitCount_0f7a4, Cond.static yJ6_bitCount_0f7a4, Cond.initialized RJ6, Cond.code yJ6_bitCount_0f7a4 cJ6_bitCount_0f7a4 1 (some .int), Cond.constant RJ6 265 (1431655765), Cond.constant RJ6 266 (858993459), Cond.constant RJ6 267 (252645135), Cond.static yX5_at, Cond.code yX5_at cX5_at 2 (some .int), Cond.methodLink RX5 314 yX5_says, Cond.instanceMethod yX5_says, Cond.selects RX5 yX5_says yX5_says, Cond.code yX5_says cX5_says 4 (some .boolean), Cond.methodLink RX5 254 yX5_distance, Cond.instanceMethod yX5_distance, Cond.selects RX5 yX5_distance yX5_distance, Cond.code yX5_distance cX5_distance 6 (some .int), Cond.methodLink RX5 258 yX5_lesser, Cond.static yX5_lesser, Cond.code yX5_lesser cX5_lesser 2 (some .int)]
def wsX5_ofLine_r5 : List Cond := [Cond.methodLink RX5 368 yX5_forbidPlacesOf, Cond.instanceMethod yX5_forbidPlacesOf, Cond.selects RX5 yX5_forbidPlacesOf yX5_forbidPlacesOf, Cond.code yX5_forbidPlacesOf cX5_forbidPlacesOf 3 none, Cond.instanceMethod yX2_forbid, Cond.selects RX2 yX2_forbid yX2_forbid, Cond.code yX2_forbid cX2_forbid 6 none, Cond.static yX5_put, Cond.code yX5_put cX5_put 3 none, Cond.instanceMethod yX2_choose, Cond.selects RX2 yX2_choose yX2_choose, Cond.code yX2_choose cX2_choose 4 none, Cond.fieldLink RX2 18 "Flapline$Planner" "plan" "[I", Cond.methodLink RX2 59 yX2_fewestFrom, Cond.instanceMethod yX2_fewestFrom, Cond.selects RX2 yX2_fewestFrom yX2_fewestFrom, Cond.code yX2_fewestFrom cX2_fewestFrom 6 (some .int), Cond.methodLink RX2 65 yX2_canBeOneStep, Cond.instanceMethod yX2_canBeOneStep, Cond.selects RX2 yX2_canBeOneStep yX2_canBeOneStep, Cond.code yX2_canBeOneStep cX2_canBeOneStep 3 (some .boolean), Cond.methodLink RX2 62 yX2_smallestFrom, Cond.instanceMethod yX2_smallestFrom, Cond.selects RX2 yX2_smallestFrom yX2_smallestFrom]
def wsX5_ofLine_r6 : List Cond := [Cond.code yX2_smallestFrom cX2_smallestFrom 5 (some .int), Cond.methodLink RX5 213 yX5_lineFact, Cond.instanceMethod yX5_lineFact, Cond.selects RX5 yX5_lineFact yX5_lineFact, Cond.code yX5_lineFact cX5_lineFact 3 (some .int), Cond.methodLink RX5 127 yX5_at, Cond.methodLink RX5 311 yX5_leastHarm, Cond.instanceMethod yX5_leastHarm, Cond.selects RX5 yX5_leastHarm yX5_leastHarm, Cond.code yX5_leastHarm cX5_leastHarm 3 (some .int), Cond.instanceMethod yX2_flips, Cond.selects RX2 yX2_flips yX2_flips, Cond.code yX2_flips cX2_flips 1 (some .int), Cond.methodLink RX2 69 yJ13_bitCount_95d88]
def wsX5_ofLine : List Cond := .code yX5_ofLine cX5_ofLine 3 (some .int) :: ((wsX5_ofLine_r1 ++ (wsX5_ofLine_r2 ++ (wsX5_ofLine_r3 ++ (wsX5_ofLine_r4 ++ (wsX5_ofLine_r5 ++ wsX5_ofLine_r6))))) ++ wsX50 ++ wsX10 ++ wsX00 ++ wsX20 ++ (vx_atS RX5 58 "java/lang/IllegalArgumentException" ["java/lang/RuntimeException", "java/lang/Exception"]).filter goodWord ++ (vx_atS RX5 228 "java/lang/IndexOutOfBoundsException" ["java/lang/RuntimeException", "java/lang/Exception"]).filter goodWord)
def wsX5_step_r1 : List Cond := [Cond.classLink RX5 54 "java/lang/IllegalArgumentException", Cond.initialized "java/lang/IllegalArgumentException", Cond.fieldLink RX5 26 "Flapline" "planner" "LFlapline$Planner;", Cond.methodLink RX5 134 yX5_needLine, Cond.instanceMethod yX5_needLine, Cond.selects RX5 yX5_needLine yX5_needLine, Cond.initialized RX5, Cond.code yX5_needLine cX5_needLine 2 none, Cond.classLink RX5 224 "java/lang/IndexOutOfBoundsException", Cond.initialized "java/lang/IndexOutOfBoundsException", Cond.methodLink RX5 157 yX5_isLine, Cond.instanceMethod yX5_isLine, Cond.selects RX5 yX5_isLine yX5_isLine, Cond.code yX5_isLine cX5_isLine 2 (some .boolean), Cond.fieldLink RX5 19 "Flapline" "book" "LFlapline$Book;", Cond.methodLink RX5 210 yX5_makePlan, Cond.instanceMethod yX5_makePlan, Cond.selects RX5 yX5_makePlan yX5_makePlan, Cond.code yX5_makePlan cX5_makePlan 4 none, Cond.fieldLink RX5 10 "Flapline" "board" "LFlapline$Board;", Cond.fieldLink RX5 44 "Flapline" "power" "I", Cond.methodLink RX5 308 yX5_bestOffset, Cond.instanceMethod yX5_bestOffset, Cond.selects RX5 yX5_bestOffset yX5_bestOffset]
def wsX5_step_r2 : List Cond := [Cond.code yX5_bestOffset cX5_bestOffset 6 (some .int), Cond.methodLink RX5 247 yX5_lastOffset, Cond.instanceMethod yX5_lastOffset, Cond.selects RX5 yX5_lastOffset yX5_lastOffset, Cond.code yX5_lastOffset cX5_lastOffset 2 (some .int), Cond.methodLink RX5 345 yX5_harm, Cond.instanceMethod yX5_harm, Cond.selects RX5 yX5_harm yX5_harm, Cond.code yX5_harm cX5_harm 3 (some .int), Cond.instanceMethod yX1_placed, Cond.initialized RX1, Cond.selects RX1 yX1_placed yX1_placed, Cond.code yX1_placed cX1_placed 3 (some .long), Cond.fieldLink RX1 24 "Flapline$Book" "forms" "[J", Cond.methodLink RX5 328 yJ13_bitCount_95d88, Cond.static yJ13_bitCount_95d88, Cond.initialized RJ13, Cond.code yJ13_bitCount_95d88 cJ13_bitCount_95d88 2 (some .int), Cond.constantLong RJ13 314 (6148914691236517205), Cond.constantLong RJ13 316 (3689348814741910323), Cond.constantLong RJ13 318 (1085102592571150095), Cond.instanceMethod yX2_giveUp, Cond.initialized RX2, Cond.selects RX2 yX2_giveUp yX2_giveUp]
def wsX5_step_r3 : List Cond := [Cond.code yX2_giveUp cX2_giveUp 1 none, Cond.fieldLink RX2 21 "Flapline$Planner" "steps" "I", Cond.methodLink RX5 348 yX5_goalAt, Cond.instanceMethod yX5_goalAt, Cond.selects RX5 yX5_goalAt yX5_goalAt, Cond.code yX5_goalAt cX5_goalAt 3 (some .long), Cond.instanceMethod yX0_withStuck, Cond.initialized RX0, Cond.selects RX0 yX0_withStuck yX0_withStuck, Cond.code yX0_withStuck cX0_withStuck 3 (some .long), Cond.fieldLink RX0 26 "Flapline$Board" "stuck" "J", Cond.constantLong RX0 36 (-1), Cond.fieldLink RX0 29 "Flapline$Board" "stuckBright" "J", Cond.instanceMethod yX2_begin, Cond.selects RX2 yX2_begin yX2_begin, Cond.code yX2_begin cX2_begin 7 none, Cond.fieldLink RX2 25 "Flapline$Planner" "start" "J", Cond.fieldLink RX2 29 "Flapline$Planner" "goal" "J", Cond.fieldLink RX2 32 "Flapline$Planner" "power" "I", Cond.fieldLink RX2 35 "Flapline$Planner" "changed" "I", Cond.fieldLink RX2 9 "Flapline$Planner" "stepsLeft" "[I", Cond.static yX5_setIn, Cond.code yX5_setIn cX5_setIn 3 (some .int), Cond.methodLink RX2 42 yX2_countDots]
def wsX5_step_r4 : List Cond := [Cond.instanceMethod yX2_countDots, Cond.selects RX2 yX2_countDots yX2_countDots, Cond.code yX2_countDots cX2_countDots 4 none, Cond.fieldLink RX2 15 "Flapline$Planner" "dotsIn" "[I", Cond.methodLink RX2 45 yJ6_bitCount_0f7a4, Cond.static yJ6_bitCount_0f7a4, Cond.initialized RJ6, Cond.code yJ6_bitCount_0f7a4 cJ6_bitCount_0f7a4 1 (some .int), Cond.constant RJ6 265 (1431655765), Cond.constant RJ6 266 (858993459), Cond.constant RJ6 267 (252645135), Cond.static yX5_at, Cond.code yX5_at cX5_at 2 (some .int), Cond.methodLink RX5 314 yX5_says, Cond.instanceMethod yX5_says, Cond.selects RX5 yX5_says yX5_says, Cond.code yX5_says cX5_says 4 (some .boolean), Cond.methodLink RX5 254 yX5_distance, Cond.instanceMethod yX5_distance, Cond.selects RX5 yX5_distance yX5_distance, Cond.code yX5_distance cX5_distance 6 (some .int), Cond.methodLink RX5 258 yX5_lesser, Cond.static yX5_lesser, Cond.code yX5_lesser cX5_lesser 2 (some .int)]
def wsX5_step_r5 : List Cond := [Cond.methodLink RX5 368 yX5_forbidPlacesOf, Cond.instanceMethod yX5_forbidPlacesOf, Cond.selects RX5 yX5_forbidPlacesOf yX5_forbidPlacesOf, Cond.code yX5_forbidPlacesOf cX5_forbidPlacesOf 3 none, Cond.instanceMethod yX2_forbid, Cond.selects RX2 yX2_forbid yX2_forbid, Cond.code yX2_forbid cX2_forbid 6 none, Cond.static yX5_put, Cond.code yX5_put cX5_put 3 none, Cond.instanceMethod yX2_choose, Cond.selects RX2 yX2_choose yX2_choose, Cond.code yX2_choose cX2_choose 4 none, Cond.fieldLink RX2 18 "Flapline$Planner" "plan" "[I", Cond.methodLink RX2 59 yX2_fewestFrom, Cond.instanceMethod yX2_fewestFrom, Cond.selects RX2 yX2_fewestFrom yX2_fewestFrom, Cond.code yX2_fewestFrom cX2_fewestFrom 6 (some .int), Cond.methodLink RX2 65 yX2_canBeOneStep, Cond.instanceMethod yX2_canBeOneStep, Cond.selects RX2 yX2_canBeOneStep yX2_canBeOneStep, Cond.code yX2_canBeOneStep cX2_canBeOneStep 3 (some .boolean), Cond.methodLink RX2 62 yX2_smallestFrom, Cond.instanceMethod yX2_smallestFrom, Cond.selects RX2 yX2_smallestFrom yX2_smallestFrom]
def wsX5_step_r6 : List Cond := [Cond.code yX2_smallestFrom cX2_smallestFrom 5 (some .int), Cond.instanceMethod yX2_setOf, Cond.selects RX2 yX2_setOf yX2_setOf, Cond.code yX2_setOf cX2_setOf 2 (some .int)]
def wsX5_step : List Cond := .code yX5_step cX5_step 3 (some .int) :: ((wsX5_step_r1 ++ (wsX5_step_r2 ++ (wsX5_step_r3 ++ (wsX5_step_r4 ++ (wsX5_step_r5 ++ wsX5_step_r6))))) ++ wsX50 ++ wsX10 ++ wsX00 ++ wsX20 ++ (vx_atS RX5 58 "java/lang/IllegalArgumentException" ["java/lang/RuntimeException", "java/lang/Exception"]).filter goodWord ++ (vx_atS RX5 228 "java/lang/IndexOutOfBoundsException" ["java/lang/RuntimeException", "java/lang/Exception"]).filter goodWord)
def wsX5_readAs_r1 : List Cond := [Cond.fieldLink RX5 19 "Flapline" "book" "LFlapline$Book;", Cond.fieldLink RX5 48 "Flapline" "blur" "I", Cond.methodLink RX5 254 yX5_distance, Cond.instanceMethod yX5_distance, Cond.selects RX5 yX5_distance yX5_distance, Cond.initialized RX5, Cond.code yX5_distance cX5_distance 6 (some .int), Cond.methodLink RX5 247 yX5_lastOffset, Cond.instanceMethod yX5_lastOffset, Cond.selects RX5 yX5_lastOffset yX5_lastOffset, Cond.code yX5_lastOffset cX5_lastOffset 2 (some .int), Cond.fieldLink RX5 10 "Flapline" "board" "LFlapline$Board;", Cond.instanceMethod yX1_placed, Cond.initialized RX1, Cond.selects RX1 yX1_placed yX1_placed, Cond.code yX1_placed cX1_placed 3 (some .long), Cond.fieldLink RX1 24 "Flapline$Book" "forms" "[J", Cond.methodLink RX5 328 yJ13_bitCount_95d88, Cond.static yJ13_bitCount_95d88, Cond.initialized RJ13, Cond.code yJ13_bitCount_95d88 cJ13_bitCount_95d88 2 (some .int), Cond.constantLong RJ13 314 (6148914691236517205), Cond.constantLong RJ13 316 (3689348814741910323), Cond.constantLong RJ13 318 (1085102592571150095)]
def wsX5_readAs_r2 : List Cond := [Cond.methodLink RX5 258 yX5_lesser, Cond.static yX5_lesser, Cond.code yX5_lesser cX5_lesser 2 (some .int)]
def wsX5_readAs : List Cond := .code yX5_readAs cX5_readAs 7 (some .int) :: ((wsX5_readAs_r1 ++ wsX5_readAs_r2) ++ wsX50 ++ wsX10 ++ wsX00)
def wsX5_signFact_r1 : List Cond := [Cond.fieldLink RX5 10 "Flapline" "board" "LFlapline$Board;", Cond.fieldLink RX5 44 "Flapline" "power" "I", Cond.fieldLink RX5 48 "Flapline" "blur" "I", Cond.fieldLink RX5 19 "Flapline" "book" "LFlapline$Book;", Cond.fieldLink RX5 335 "Flapline" "stepsEver" "I", Cond.fieldLink RX5 51 "Flapline" "shownLast" "I", Cond.fieldLink RX5 33 "Flapline" "wire" "LFlapline$Wire;", Cond.fieldLink RX5 40 "Flapline" "route" "LFlapline$Route;", Cond.methodLink RX5 324 yX5_readAs, Cond.instanceMethod yX5_readAs, Cond.selects RX5 yX5_readAs yX5_readAs, Cond.initialized RX5, Cond.code yX5_readAs cX5_readAs 7 (some .int), Cond.methodLink RX5 254 yX5_distance, Cond.instanceMethod yX5_distance, Cond.selects RX5 yX5_distance yX5_distance, Cond.code yX5_distance cX5_distance 6 (some .int), Cond.methodLink RX5 247 yX5_lastOffset, Cond.instanceMethod yX5_lastOffset, Cond.selects RX5 yX5_lastOffset yX5_lastOffset, Cond.code yX5_lastOffset cX5_lastOffset 2 (some .int), Cond.instanceMethod yX1_placed, Cond.initialized RX1, Cond.selects RX1 yX1_placed yX1_placed]
def wsX5_signFact_r2 : List Cond := [Cond.code yX1_placed cX1_placed 3 (some .long), Cond.fieldLink RX1 24 "Flapline$Book" "forms" "[J", Cond.methodLink RX5 328 yJ13_bitCount_95d88, Cond.static yJ13_bitCount_95d88, Cond.initialized RJ13, Cond.code yJ13_bitCount_95d88 cJ13_bitCount_95d88 2 (some .int), Cond.constantLong RJ13 314 (6148914691236517205), Cond.constantLong RJ13 316 (3689348814741910323), Cond.constantLong RJ13 318 (1085102592571150095), Cond.methodLink RX5 258 yX5_lesser, Cond.static yX5_lesser, Cond.code yX5_lesser cX5_lesser 2 (some .int), Cond.instanceMethod yX0_allFlips, Cond.initialized RX0, Cond.selects RX0 yX0_allFlips yX0_allFlips, Cond.code yX0_allFlips cX0_allFlips 3 (some .int), Cond.fieldLink RX0 18 "Flapline$Board" "columns" "I", Cond.methodLink RX0 66 yX0_flipsIn, Cond.instanceMethod yX0_flipsIn, Cond.selects RX0 yX0_flipsIn yX0_flipsIn, Cond.code yX0_flipsIn cX0_flipsIn 4 (some .int), Cond.fieldLink RX0 9 "Flapline$Board" "flips" "[I", Cond.static yX5_bitOf, Cond.code yX5_bitOf cX5_bitOf 2 (some .int)]
def wsX5_signFact_r3 : List Cond := [Cond.static yX5_at, Cond.code yX5_at cX5_at 2 (some .int), Cond.instanceMethod yX4_fact, Cond.initialized RX4, Cond.selects RX4 yX4_fact yX4_fact, Cond.code yX4_fact cX4_fact 2 (some .int), Cond.fieldLink RX4 24 "Flapline$Wire" "broken" "I", Cond.fieldLink RX4 27 "Flapline$Wire" "old" "I", Cond.fieldLink RX4 21 "Flapline$Wire" "taken" "I", Cond.fieldLink RX4 30 "Flapline$Wire" "unshown" "I", Cond.fieldLink RX4 9 "Flapline$Wire" "lastNumber" "I", Cond.instanceMethod yX3_fact, Cond.initialized RX3, Cond.selects RX3 yX3_fact yX3_fact, Cond.code yX3_fact cX3_fact 2 (some .int), Cond.fieldLink RX3 18 "Flapline$Route" "stops" "I", Cond.fieldLink RX3 29 "Flapline$Route" "next" "I", Cond.fieldLink RX3 26 "Flapline$Route" "turned" "I"]
def wsX5_signFact : List Cond := .code yX5_signFact cX5_signFact 2 (some .int) :: ((wsX5_signFact_r1 ++ (wsX5_signFact_r2 ++ wsX5_signFact_r3)) ++ wsX50 ++ wsX00 ++ wsX10 ++ wsX40 ++ wsX30)
def wsX5_sign_r1 : List Cond := [Cond.classLink RX5 54 "java/lang/IllegalArgumentException", Cond.initialized "java/lang/IllegalArgumentException", Cond.methodLink RX5 242 yX5_signFact, Cond.instanceMethod yX5_signFact, Cond.selects RX5 yX5_signFact yX5_signFact, Cond.initialized RX5, Cond.code yX5_signFact cX5_signFact 2 (some .int), Cond.fieldLink RX5 10 "Flapline" "board" "LFlapline$Board;", Cond.fieldLink RX5 44 "Flapline" "power" "I", Cond.fieldLink RX5 48 "Flapline" "blur" "I", Cond.fieldLink RX5 19 "Flapline" "book" "LFlapline$Book;", Cond.fieldLink RX5 335 "Flapline" "stepsEver" "I", Cond.fieldLink RX5 51 "Flapline" "shownLast" "I", Cond.fieldLink RX5 33 "Flapline" "wire" "LFlapline$Wire;", Cond.fieldLink RX5 40 "Flapline" "route" "LFlapline$Route;", Cond.methodLink RX5 324 yX5_readAs, Cond.instanceMethod yX5_readAs, Cond.selects RX5 yX5_readAs yX5_readAs, Cond.code yX5_readAs cX5_readAs 7 (some .int), Cond.methodLink RX5 254 yX5_distance, Cond.instanceMethod yX5_distance, Cond.selects RX5 yX5_distance yX5_distance, Cond.code yX5_distance cX5_distance 6 (some .int), Cond.methodLink RX5 247 yX5_lastOffset]
def wsX5_sign_r2 : List Cond := [Cond.instanceMethod yX5_lastOffset, Cond.selects RX5 yX5_lastOffset yX5_lastOffset, Cond.code yX5_lastOffset cX5_lastOffset 2 (some .int), Cond.instanceMethod yX1_placed, Cond.initialized RX1, Cond.selects RX1 yX1_placed yX1_placed, Cond.code yX1_placed cX1_placed 3 (some .long), Cond.fieldLink RX1 24 "Flapline$Book" "forms" "[J", Cond.methodLink RX5 328 yJ13_bitCount_95d88, Cond.static yJ13_bitCount_95d88, Cond.initialized RJ13, Cond.code yJ13_bitCount_95d88 cJ13_bitCount_95d88 2 (some .int), Cond.constantLong RJ13 314 (6148914691236517205), Cond.constantLong RJ13 316 (3689348814741910323), Cond.constantLong RJ13 318 (1085102592571150095), Cond.methodLink RX5 258 yX5_lesser, Cond.static yX5_lesser, Cond.code yX5_lesser cX5_lesser 2 (some .int), Cond.instanceMethod yX0_allFlips, Cond.initialized RX0, Cond.selects RX0 yX0_allFlips yX0_allFlips, Cond.code yX0_allFlips cX0_allFlips 3 (some .int), Cond.fieldLink RX0 18 "Flapline$Board" "columns" "I", Cond.methodLink RX0 66 yX0_flipsIn]
def wsX5_sign_r3 : List Cond := [Cond.instanceMethod yX0_flipsIn, Cond.selects RX0 yX0_flipsIn yX0_flipsIn, Cond.code yX0_flipsIn cX0_flipsIn 4 (some .int), Cond.fieldLink RX0 9 "Flapline$Board" "flips" "[I", Cond.static yX5_bitOf, Cond.code yX5_bitOf cX5_bitOf 2 (some .int), Cond.static yX5_at, Cond.code yX5_at cX5_at 2 (some .int), Cond.instanceMethod yX4_fact, Cond.initialized RX4, Cond.selects RX4 yX4_fact yX4_fact, Cond.code yX4_fact cX4_fact 2 (some .int), Cond.fieldLink RX4 24 "Flapline$Wire" "broken" "I", Cond.fieldLink RX4 27 "Flapline$Wire" "old" "I", Cond.fieldLink RX4 21 "Flapline$Wire" "taken" "I", Cond.fieldLink RX4 30 "Flapline$Wire" "unshown" "I", Cond.fieldLink RX4 9 "Flapline$Wire" "lastNumber" "I", Cond.instanceMethod yX3_fact, Cond.initialized RX3, Cond.selects RX3 yX3_fact yX3_fact, Cond.code yX3_fact cX3_fact 2 (some .int), Cond.fieldLink RX3 18 "Flapline$Route" "stops" "I", Cond.fieldLink RX3 29 "Flapline$Route" "next" "I", Cond.fieldLink RX3 26 "Flapline$Route" "turned" "I"]
def wsX5_sign : List Cond := .code yX5_sign cX5_sign 2 (some .int) :: ((wsX5_sign_r1 ++ (wsX5_sign_r2 ++ wsX5_sign_r3)) ++ wsX50 ++ wsX00 ++ wsX10 ++ wsX40 ++ wsX30 ++ (vx_atS RX5 58 "java/lang/IllegalArgumentException" ["java/lang/RuntimeException", "java/lang/Exception"]).filter goodWord)
def wsX5_isWrong_r1 : List Cond := [Cond.fieldLink RX5 19 "Flapline" "book" "LFlapline$Book;", Cond.fieldLink RX5 10 "Flapline" "board" "LFlapline$Board;", Cond.methodLink RX5 314 yX5_says, Cond.instanceMethod yX5_says, Cond.selects RX5 yX5_says yX5_says, Cond.initialized RX5, Cond.code yX5_says cX5_says 4 (some .boolean), Cond.methodLink RX5 254 yX5_distance, Cond.instanceMethod yX5_distance, Cond.selects RX5 yX5_distance yX5_distance, Cond.code yX5_distance cX5_distance 6 (some .int), Cond.methodLink RX5 247 yX5_lastOffset, Cond.instanceMethod yX5_lastOffset, Cond.selects RX5 yX5_lastOffset yX5_lastOffset, Cond.code yX5_lastOffset cX5_lastOffset 2 (some .int), Cond.instanceMethod yX1_placed, Cond.initialized RX1, Cond.selects RX1 yX1_placed yX1_placed, Cond.code yX1_placed cX1_placed 3 (some .long), Cond.fieldLink RX1 24 "Flapline$Book" "forms" "[J", Cond.methodLink RX5 328 yJ13_bitCount_95d88, Cond.static yJ13_bitCount_95d88, Cond.initialized RJ13, Cond.code yJ13_bitCount_95d88 cJ13_bitCount_95d88 2 (some .int)]
def wsX5_isWrong_r2 : List Cond := [Cond.constantLong RJ13 314 (6148914691236517205), Cond.constantLong RJ13 316 (3689348814741910323), Cond.constantLong RJ13 318 (1085102592571150095), Cond.methodLink RX5 258 yX5_lesser, Cond.static yX5_lesser, Cond.code yX5_lesser cX5_lesser 2 (some .int)]
def wsX5_isWrong : List Cond := .code yX5_isWrong cX5_isWrong 5 (some .boolean) :: ((wsX5_isWrong_r1 ++ wsX5_isWrong_r2) ++ wsX50 ++ wsX10 ++ wsX00)
def wsX5_planIsTrue_r1 : List Cond := [Cond.fieldLink RX5 26 "Flapline" "planner" "LFlapline$Planner;", Cond.methodLink RX5 210 yX5_makePlan, Cond.instanceMethod yX5_makePlan, Cond.selects RX5 yX5_makePlan yX5_makePlan, Cond.initialized RX5, Cond.code yX5_makePlan cX5_makePlan 4 none, Cond.fieldLink RX5 10 "Flapline" "board" "LFlapline$Board;", Cond.fieldLink RX5 44 "Flapline" "power" "I", Cond.fieldLink RX5 19 "Flapline" "book" "LFlapline$Book;", Cond.methodLink RX5 308 yX5_bestOffset, Cond.instanceMethod yX5_bestOffset, Cond.selects RX5 yX5_bestOffset yX5_bestOffset, Cond.code yX5_bestOffset cX5_bestOffset 6 (some .int), Cond.methodLink RX5 247 yX5_lastOffset, Cond.instanceMethod yX5_lastOffset, Cond.selects RX5 yX5_lastOffset yX5_lastOffset, Cond.code yX5_lastOffset cX5_lastOffset 2 (some .int), Cond.methodLink RX5 345 yX5_harm, Cond.instanceMethod yX5_harm, Cond.selects RX5 yX5_harm yX5_harm, Cond.code yX5_harm cX5_harm 3 (some .int), Cond.instanceMethod yX1_placed, Cond.initialized RX1, Cond.selects RX1 yX1_placed yX1_placed]
def wsX5_planIsTrue_r2 : List Cond := [Cond.code yX1_placed cX1_placed 3 (some .long), Cond.fieldLink RX1 24 "Flapline$Book" "forms" "[J", Cond.methodLink RX5 328 yJ13_bitCount_95d88, Cond.static yJ13_bitCount_95d88, Cond.initialized RJ13, Cond.code yJ13_bitCount_95d88 cJ13_bitCount_95d88 2 (some .int), Cond.constantLong RJ13 314 (6148914691236517205), Cond.constantLong RJ13 316 (3689348814741910323), Cond.constantLong RJ13 318 (1085102592571150095), Cond.instanceMethod yX2_giveUp, Cond.initialized RX2, Cond.selects RX2 yX2_giveUp yX2_giveUp, Cond.code yX2_giveUp cX2_giveUp 1 none, Cond.fieldLink RX2 21 "Flapline$Planner" "steps" "I", Cond.methodLink RX5 348 yX5_goalAt, Cond.instanceMethod yX5_goalAt, Cond.selects RX5 yX5_goalAt yX5_goalAt, Cond.code yX5_goalAt cX5_goalAt 3 (some .long), Cond.instanceMethod yX0_withStuck, Cond.initialized RX0, Cond.selects RX0 yX0_withStuck yX0_withStuck, Cond.code yX0_withStuck cX0_withStuck 3 (some .long), Cond.fieldLink RX0 26 "Flapline$Board" "stuck" "J", Cond.constantLong RX0 36 (-1)]
def wsX5_planIsTrue_r3 : List Cond := [Cond.fieldLink RX0 29 "Flapline$Board" "stuckBright" "J", Cond.instanceMethod yX2_begin, Cond.selects RX2 yX2_begin yX2_begin, Cond.code yX2_begin cX2_begin 7 none, Cond.fieldLink RX2 25 "Flapline$Planner" "start" "J", Cond.fieldLink RX2 29 "Flapline$Planner" "goal" "J", Cond.fieldLink RX2 32 "Flapline$Planner" "power" "I", Cond.fieldLink RX2 35 "Flapline$Planner" "changed" "I", Cond.fieldLink RX2 9 "Flapline$Planner" "stepsLeft" "[I", Cond.static yX5_setIn, Cond.code yX5_setIn cX5_setIn 3 (some .int), Cond.methodLink RX2 42 yX2_countDots, Cond.instanceMethod yX2_countDots, Cond.selects RX2 yX2_countDots yX2_countDots, Cond.code yX2_countDots cX2_countDots 4 none, Cond.fieldLink RX2 15 "Flapline$Planner" "dotsIn" "[I", Cond.methodLink RX2 45 yJ6_bitCount_0f7a4, Cond.static yJ6_bitCount_0f7a4, Cond.initialized RJ6, Cond.code yJ6_bitCount_0f7a4 cJ6_bitCount_0f7a4 1 (some .int), Cond.constant RJ6 265 (1431655765), Cond.constant RJ6 266 (858993459), Cond.constant RJ6 267 (252645135), Cond.static yX5_at]
def wsX5_planIsTrue_r4 : List Cond := [Cond.code yX5_at cX5_at 2 (some .int), Cond.methodLink RX5 314 yX5_says, Cond.instanceMethod yX5_says, Cond.selects RX5 yX5_says yX5_says, Cond.code yX5_says cX5_says 4 (some .boolean), Cond.methodLink RX5 254 yX5_distance, Cond.instanceMethod yX5_distance, Cond.selects RX5 yX5_distance yX5_distance, Cond.code yX5_distance cX5_distance 6 (some .int), Cond.methodLink RX5 258 yX5_lesser, Cond.static yX5_lesser, Cond.code yX5_lesser cX5_lesser 2 (some .int), Cond.methodLink RX5 368 yX5_forbidPlacesOf, Cond.instanceMethod yX5_forbidPlacesOf, Cond.selects RX5 yX5_forbidPlacesOf yX5_forbidPlacesOf, Cond.code yX5_forbidPlacesOf cX5_forbidPlacesOf 3 none, Cond.instanceMethod yX2_forbid, Cond.selects RX2 yX2_forbid yX2_forbid, Cond.code yX2_forbid cX2_forbid 6 none, Cond.static yX5_put, Cond.code yX5_put cX5_put 3 none, Cond.instanceMethod yX2_choose, Cond.selects RX2 yX2_choose yX2_choose, Cond.code yX2_choose cX2_choose 4 none]
def wsX5_planIsTrue_r5 : List Cond := [Cond.fieldLink RX2 18 "Flapline$Planner" "plan" "[I", Cond.methodLink RX2 59 yX2_fewestFrom, Cond.instanceMethod yX2_fewestFrom, Cond.selects RX2 yX2_fewestFrom yX2_fewestFrom, Cond.code yX2_fewestFrom cX2_fewestFrom 6 (some .int), Cond.methodLink RX2 65 yX2_canBeOneStep, Cond.instanceMethod yX2_canBeOneStep, Cond.selects RX2 yX2_canBeOneStep yX2_canBeOneStep, Cond.code yX2_canBeOneStep cX2_canBeOneStep 3 (some .boolean), Cond.methodLink RX2 62 yX2_smallestFrom, Cond.instanceMethod yX2_smallestFrom, Cond.selects RX2 yX2_smallestFrom yX2_smallestFrom, Cond.code yX2_smallestFrom cX2_smallestFrom 5 (some .int), Cond.instanceMethod yX2_setOf, Cond.selects RX2 yX2_setOf yX2_setOf, Cond.code yX2_setOf cX2_setOf 2 (some .int), Cond.instanceMethod yX2_pictureBehind, Cond.selects RX2 yX2_pictureBehind yX2_pictureBehind, Cond.code yX2_pictureBehind cX2_pictureBehind 5 (some .long), Cond.constantLong RX2 74 (31), Cond.static yX5_bitOf, Cond.code yX5_bitOf cX5_bitOf 2 (some .int), Cond.methodLink RX5 381 yX5_isWrong, Cond.instanceMethod yX5_isWrong]
def wsX5_planIsTrue_r6 : List Cond := [Cond.selects RX5 yX5_isWrong yX5_isWrong, Cond.code yX5_isWrong cX5_isWrong 5 (some .boolean)]
def wsX5_planIsTrue : List Cond := .code yX5_planIsTrue cX5_planIsTrue 4 (some .boolean) :: ((wsX5_planIsTrue_r1 ++ (wsX5_planIsTrue_r2 ++ (wsX5_planIsTrue_r3 ++ (wsX5_planIsTrue_r4 ++ (wsX5_planIsTrue_r5 ++ wsX5_planIsTrue_r6))))) ++ wsX50 ++ wsX20 ++ wsX00 ++ wsX10)
def wsX5_isSound_r1 : List Cond := [Cond.fieldLink RX5 19 "Flapline" "book" "LFlapline$Book;", Cond.fieldLink RX5 10 "Flapline" "board" "LFlapline$Board;", Cond.fieldLink RX5 40 "Flapline" "route" "LFlapline$Route;", Cond.methodLink RX5 264 yX5_planIsTrue, Cond.instanceMethod yX5_planIsTrue, Cond.selects RX5 yX5_planIsTrue yX5_planIsTrue, Cond.initialized RX5, Cond.code yX5_planIsTrue cX5_planIsTrue 4 (some .boolean), Cond.fieldLink RX5 26 "Flapline" "planner" "LFlapline$Planner;", Cond.methodLink RX5 210 yX5_makePlan, Cond.instanceMethod yX5_makePlan, Cond.selects RX5 yX5_makePlan yX5_makePlan, Cond.code yX5_makePlan cX5_makePlan 4 none, Cond.fieldLink RX5 44 "Flapline" "power" "I", Cond.methodLink RX5 308 yX5_bestOffset, Cond.instanceMethod yX5_bestOffset, Cond.selects RX5 yX5_bestOffset yX5_bestOffset, Cond.code yX5_bestOffset cX5_bestOffset 6 (some .int), Cond.methodLink RX5 247 yX5_lastOffset, Cond.instanceMethod yX5_lastOffset, Cond.selects RX5 yX5_lastOffset yX5_lastOffset, Cond.code yX5_lastOffset cX5_lastOffset 2 (some .int), Cond.methodLink RX5 345 yX5_harm, Cond.instanceMethod yX5_harm]
def wsX5_isSound_r2 : List Cond := [Cond.selects RX5 yX5_harm yX5_harm, Cond.code yX5_harm cX5_harm 3 (some .int), Cond.instanceMethod yX1_placed, Cond.initialized RX1, Cond.selects RX1 yX1_placed yX1_placed, Cond.code yX1_placed cX1_placed 3 (some .long), Cond.fieldLink RX1 24 "Flapline$Book" "forms" "[J", Cond.methodLink RX5 328 yJ13_bitCount_95d88, Cond.static yJ13_bitCount_95d88, Cond.initialized RJ13, Cond.code yJ13_bitCount_95d88 cJ13_bitCount_95d88 2 (some .int), Cond.constantLong RJ13 314 (6148914691236517205), Cond.constantLong RJ13 316 (3689348814741910323), Cond.constantLong RJ13 318 (1085102592571150095), Cond.instanceMethod yX2_giveUp, Cond.initialized RX2, Cond.selects RX2 yX2_giveUp yX2_giveUp, Cond.code yX2_giveUp cX2_giveUp 1 none, Cond.fieldLink RX2 21 "Flapline$Planner" "steps" "I", Cond.methodLink RX5 348 yX5_goalAt, Cond.instanceMethod yX5_goalAt, Cond.selects RX5 yX5_goalAt yX5_goalAt, Cond.code yX5_goalAt cX5_goalAt 3 (some .long), Cond.instanceMethod yX0_withStuck]
def wsX5_isSound_r3 : List Cond := [Cond.initialized RX0, Cond.selects RX0 yX0_withStuck yX0_withStuck, Cond.code yX0_withStuck cX0_withStuck 3 (some .long), Cond.fieldLink RX0 26 "Flapline$Board" "stuck" "J", Cond.constantLong RX0 36 (-1), Cond.fieldLink RX0 29 "Flapline$Board" "stuckBright" "J", Cond.instanceMethod yX2_begin, Cond.selects RX2 yX2_begin yX2_begin, Cond.code yX2_begin cX2_begin 7 none, Cond.fieldLink RX2 25 "Flapline$Planner" "start" "J", Cond.fieldLink RX2 29 "Flapline$Planner" "goal" "J", Cond.fieldLink RX2 32 "Flapline$Planner" "power" "I", Cond.fieldLink RX2 35 "Flapline$Planner" "changed" "I", Cond.fieldLink RX2 9 "Flapline$Planner" "stepsLeft" "[I", Cond.static yX5_setIn, Cond.code yX5_setIn cX5_setIn 3 (some .int), Cond.methodLink RX2 42 yX2_countDots, Cond.instanceMethod yX2_countDots, Cond.selects RX2 yX2_countDots yX2_countDots, Cond.code yX2_countDots cX2_countDots 4 none, Cond.fieldLink RX2 15 "Flapline$Planner" "dotsIn" "[I", Cond.methodLink RX2 45 yJ6_bitCount_0f7a4, Cond.static yJ6_bitCount_0f7a4, Cond.initialized RJ6]
def wsX5_isSound_r4 : List Cond := [Cond.code yJ6_bitCount_0f7a4 cJ6_bitCount_0f7a4 1 (some .int), Cond.constant RJ6 265 (1431655765), Cond.constant RJ6 266 (858993459), Cond.constant RJ6 267 (252645135), Cond.static yX5_at, Cond.code yX5_at cX5_at 2 (some .int), Cond.methodLink RX5 314 yX5_says, Cond.instanceMethod yX5_says, Cond.selects RX5 yX5_says yX5_says, Cond.code yX5_says cX5_says 4 (some .boolean), Cond.methodLink RX5 254 yX5_distance, Cond.instanceMethod yX5_distance, Cond.selects RX5 yX5_distance yX5_distance, Cond.code yX5_distance cX5_distance 6 (some .int), Cond.methodLink RX5 258 yX5_lesser, Cond.static yX5_lesser, Cond.code yX5_lesser cX5_lesser 2 (some .int), Cond.methodLink RX5 368 yX5_forbidPlacesOf, Cond.instanceMethod yX5_forbidPlacesOf, Cond.selects RX5 yX5_forbidPlacesOf yX5_forbidPlacesOf, Cond.code yX5_forbidPlacesOf cX5_forbidPlacesOf 3 none, Cond.instanceMethod yX2_forbid, Cond.selects RX2 yX2_forbid yX2_forbid, Cond.code yX2_forbid cX2_forbid 6 none]
def wsX5_isSound_r5 : List Cond := [Cond.static yX5_put, Cond.code yX5_put cX5_put 3 none, Cond.instanceMethod yX2_choose, Cond.selects RX2 yX2_choose yX2_choose, Cond.code yX2_choose cX2_choose 4 none, Cond.fieldLink RX2 18 "Flapline$Planner" "plan" "[I", Cond.methodLink RX2 59 yX2_fewestFrom, Cond.instanceMethod yX2_fewestFrom, Cond.selects RX2 yX2_fewestFrom yX2_fewestFrom, Cond.code yX2_fewestFrom cX2_fewestFrom 6 (some .int), Cond.methodLink RX2 65 yX2_canBeOneStep, Cond.instanceMethod yX2_canBeOneStep, Cond.selects RX2 yX2_canBeOneStep yX2_canBeOneStep, Cond.code yX2_canBeOneStep cX2_canBeOneStep 3 (some .boolean), Cond.methodLink RX2 62 yX2_smallestFrom, Cond.instanceMethod yX2_smallestFrom, Cond.selects RX2 yX2_smallestFrom yX2_smallestFrom, Cond.code yX2_smallestFrom cX2_smallestFrom 5 (some .int), Cond.instanceMethod yX2_setOf, Cond.selects RX2 yX2_setOf yX2_setOf, Cond.code yX2_setOf cX2_setOf 2 (some .int), Cond.instanceMethod yX2_pictureBehind, Cond.selects RX2 yX2_pictureBehind yX2_pictureBehind, Cond.code yX2_pictureBehind cX2_pictureBehind 5 (some .long)]
def wsX5_isSound_r6 : List Cond := [Cond.constantLong RX2 74 (31), Cond.static yX5_bitOf, Cond.code yX5_bitOf cX5_bitOf 2 (some .int), Cond.methodLink RX5 381 yX5_isWrong, Cond.instanceMethod yX5_isWrong, Cond.selects RX5 yX5_isWrong yX5_isWrong, Cond.code yX5_isWrong cX5_isWrong 5 (some .boolean), Cond.instanceMethod yX0_isTrue, Cond.selects RX0 yX0_isTrue yX0_isTrue, Cond.code yX0_isTrue cX0_isTrue 2 (some .boolean), Cond.fieldLink RX0 18 "Flapline$Board" "columns" "I", Cond.fieldLink RX0 15 "Flapline$Board" "wear" "[I", Cond.fieldLink RX0 22 "Flapline$Board" "picture" "J", Cond.methodLink RX0 66 yX0_flipsIn, Cond.instanceMethod yX0_flipsIn, Cond.selects RX0 yX0_flipsIn yX0_flipsIn, Cond.code yX0_flipsIn cX0_flipsIn 4 (some .int), Cond.fieldLink RX0 9 "Flapline$Board" "flips" "[I", Cond.methodLink RX0 38 yX0_withStuck, Cond.instanceMethod yX3_isTrue, Cond.initialized RX3, Cond.selects RX3 yX3_isTrue yX3_isTrue, Cond.code yX3_isTrue cX3_isTrue 1 (some .boolean), Cond.fieldLink RX3 29 "Flapline$Route" "next" "I"]
def wsX5_isSound_r7 : List Cond := [Cond.fieldLink RX3 18 "Flapline$Route" "stops" "I"]
def wsX5_isSound : List Cond := .code yX5_isSound cX5_isSound 2 (some .boolean) :: ((wsX5_isSound_r1 ++ (wsX5_isSound_r2 ++ (wsX5_isSound_r3 ++ (wsX5_isSound_r4 ++ (wsX5_isSound_r5 ++ (wsX5_isSound_r6 ++ wsX5_isSound_r7)))))) ++ wsX50 ++ wsX10 ++ wsX20 ++ wsX00 ++ wsX30)
def wsX5_readOfGoal_r1 : List Cond := [Cond.methodLink RX5 308 yX5_bestOffset, Cond.instanceMethod yX5_bestOffset, Cond.selects RX5 yX5_bestOffset yX5_bestOffset, Cond.initialized RX5, Cond.code yX5_bestOffset cX5_bestOffset 6 (some .int), Cond.methodLink RX5 247 yX5_lastOffset, Cond.instanceMethod yX5_lastOffset, Cond.selects RX5 yX5_lastOffset yX5_lastOffset, Cond.code yX5_lastOffset cX5_lastOffset 2 (some .int), Cond.fieldLink RX5 19 "Flapline" "book" "LFlapline$Book;", Cond.fieldLink RX5 10 "Flapline" "board" "LFlapline$Board;", Cond.methodLink RX5 345 yX5_harm, Cond.instanceMethod yX5_harm, Cond.selects RX5 yX5_harm yX5_harm, Cond.code yX5_harm cX5_harm 3 (some .int), Cond.instanceMethod yX1_placed, Cond.initialized RX1, Cond.selects RX1 yX1_placed yX1_placed, Cond.code yX1_placed cX1_placed 3 (some .long), Cond.fieldLink RX1 24 "Flapline$Book" "forms" "[J", Cond.methodLink RX5 328 yJ13_bitCount_95d88, Cond.static yJ13_bitCount_95d88, Cond.initialized RJ13, Cond.code yJ13_bitCount_95d88 cJ13_bitCount_95d88 2 (some .int)]
def wsX5_readOfGoal_r2 : List Cond := [Cond.constantLong RJ13 314 (6148914691236517205), Cond.constantLong RJ13 316 (3689348814741910323), Cond.constantLong RJ13 318 (1085102592571150095), Cond.methodLink RX5 348 yX5_goalAt, Cond.instanceMethod yX5_goalAt, Cond.selects RX5 yX5_goalAt yX5_goalAt, Cond.code yX5_goalAt cX5_goalAt 3 (some .long), Cond.instanceMethod yX0_withStuck, Cond.initialized RX0, Cond.selects RX0 yX0_withStuck yX0_withStuck, Cond.code yX0_withStuck cX0_withStuck 3 (some .long), Cond.fieldLink RX0 26 "Flapline$Board" "stuck" "J", Cond.constantLong RX0 36 (-1), Cond.fieldLink RX0 29 "Flapline$Board" "stuckBright" "J", Cond.methodLink RX5 324 yX5_readAs, Cond.instanceMethod yX5_readAs, Cond.selects RX5 yX5_readAs yX5_readAs, Cond.code yX5_readAs cX5_readAs 7 (some .int), Cond.fieldLink RX5 48 "Flapline" "blur" "I", Cond.methodLink RX5 254 yX5_distance, Cond.instanceMethod yX5_distance, Cond.selects RX5 yX5_distance yX5_distance, Cond.code yX5_distance cX5_distance 6 (some .int), Cond.methodLink RX5 258 yX5_lesser]
def wsX5_readOfGoal_r3 : List Cond := [Cond.static yX5_lesser, Cond.code yX5_lesser cX5_lesser 2 (some .int)]
def wsX5_readOfGoal : List Cond := .code yX5_readOfGoal cX5_readOfGoal 3 (some .int) :: ((wsX5_readOfGoal_r1 ++ (wsX5_readOfGoal_r2 ++ wsX5_readOfGoal_r3)) ++ wsX50 ++ wsX10 ++ wsX00)
def wsX5_addLineTo_r1 : List Cond := [Cond.constantLong RX5 274 (31), Cond.fieldLink RX5 26 "Flapline" "planner" "LFlapline$Planner;", Cond.methodLink RX5 210 yX5_makePlan, Cond.instanceMethod yX5_makePlan, Cond.selects RX5 yX5_makePlan yX5_makePlan, Cond.initialized RX5, Cond.code yX5_makePlan cX5_makePlan 4 none, Cond.fieldLink RX5 10 "Flapline" "board" "LFlapline$Board;", Cond.fieldLink RX5 44 "Flapline" "power" "I", Cond.fieldLink RX5 19 "Flapline" "book" "LFlapline$Book;", Cond.methodLink RX5 308 yX5_bestOffset, Cond.instanceMethod yX5_bestOffset, Cond.selects RX5 yX5_bestOffset yX5_bestOffset, Cond.code yX5_bestOffset cX5_bestOffset 6 (some .int), Cond.methodLink RX5 247 yX5_lastOffset, Cond.instanceMethod yX5_lastOffset, Cond.selects RX5 yX5_lastOffset yX5_lastOffset, Cond.code yX5_lastOffset cX5_lastOffset 2 (some .int), Cond.methodLink RX5 345 yX5_harm, Cond.instanceMethod yX5_harm, Cond.selects RX5 yX5_harm yX5_harm, Cond.code yX5_harm cX5_harm 3 (some .int), Cond.instanceMethod yX1_placed, Cond.initialized RX1]
def wsX5_addLineTo_r2 : List Cond := [Cond.selects RX1 yX1_placed yX1_placed, Cond.code yX1_placed cX1_placed 3 (some .long), Cond.fieldLink RX1 24 "Flapline$Book" "forms" "[J", Cond.methodLink RX5 328 yJ13_bitCount_95d88, Cond.static yJ13_bitCount_95d88, Cond.initialized RJ13, Cond.code yJ13_bitCount_95d88 cJ13_bitCount_95d88 2 (some .int), Cond.constantLong RJ13 314 (6148914691236517205), Cond.constantLong RJ13 316 (3689348814741910323), Cond.constantLong RJ13 318 (1085102592571150095), Cond.instanceMethod yX2_giveUp, Cond.initialized RX2, Cond.selects RX2 yX2_giveUp yX2_giveUp, Cond.code yX2_giveUp cX2_giveUp 1 none, Cond.fieldLink RX2 21 "Flapline$Planner" "steps" "I", Cond.methodLink RX5 348 yX5_goalAt, Cond.instanceMethod yX5_goalAt, Cond.selects RX5 yX5_goalAt yX5_goalAt, Cond.code yX5_goalAt cX5_goalAt 3 (some .long), Cond.instanceMethod yX0_withStuck, Cond.initialized RX0, Cond.selects RX0 yX0_withStuck yX0_withStuck, Cond.code yX0_withStuck cX0_withStuck 3 (some .long), Cond.fieldLink RX0 26 "Flapline$Board" "stuck" "J"]
def wsX5_addLineTo_r3 : List Cond := [Cond.constantLong RX0 36 (-1), Cond.fieldLink RX0 29 "Flapline$Board" "stuckBright" "J", Cond.instanceMethod yX2_begin, Cond.selects RX2 yX2_begin yX2_begin, Cond.code yX2_begin cX2_begin 7 none, Cond.fieldLink RX2 25 "Flapline$Planner" "start" "J", Cond.fieldLink RX2 29 "Flapline$Planner" "goal" "J", Cond.fieldLink RX2 32 "Flapline$Planner" "power" "I", Cond.fieldLink RX2 35 "Flapline$Planner" "changed" "I", Cond.fieldLink RX2 9 "Flapline$Planner" "stepsLeft" "[I", Cond.static yX5_setIn, Cond.code yX5_setIn cX5_setIn 3 (some .int), Cond.methodLink RX2 42 yX2_countDots, Cond.instanceMethod yX2_countDots, Cond.selects RX2 yX2_countDots yX2_countDots, Cond.code yX2_countDots cX2_countDots 4 none, Cond.fieldLink RX2 15 "Flapline$Planner" "dotsIn" "[I", Cond.methodLink RX2 45 yJ6_bitCount_0f7a4, Cond.static yJ6_bitCount_0f7a4, Cond.initialized RJ6, Cond.code yJ6_bitCount_0f7a4 cJ6_bitCount_0f7a4 1 (some .int), Cond.constant RJ6 265 (1431655765), Cond.constant RJ6 266 (858993459), Cond.constant RJ6 267 (252645135)]
def wsX5_addLineTo_r4 : List Cond := [Cond.static yX5_at, Cond.code yX5_at cX5_at 2 (some .int), Cond.methodLink RX5 314 yX5_says, Cond.instanceMethod yX5_says, Cond.selects RX5 yX5_says yX5_says, Cond.code yX5_says cX5_says 4 (some .boolean), Cond.methodLink RX5 254 yX5_distance, Cond.instanceMethod yX5_distance, Cond.selects RX5 yX5_distance yX5_distance, Cond.code yX5_distance cX5_distance 6 (some .int), Cond.methodLink RX5 258 yX5_lesser, Cond.static yX5_lesser, Cond.code yX5_lesser cX5_lesser 2 (some .int), Cond.methodLink RX5 368 yX5_forbidPlacesOf, Cond.instanceMethod yX5_forbidPlacesOf, Cond.selects RX5 yX5_forbidPlacesOf yX5_forbidPlacesOf, Cond.code yX5_forbidPlacesOf cX5_forbidPlacesOf 3 none, Cond.instanceMethod yX2_forbid, Cond.selects RX2 yX2_forbid yX2_forbid, Cond.code yX2_forbid cX2_forbid 6 none, Cond.static yX5_put, Cond.code yX5_put cX5_put 3 none, Cond.instanceMethod yX2_choose, Cond.selects RX2 yX2_choose yX2_choose]
def wsX5_addLineTo_r5 : List Cond := [Cond.code yX2_choose cX2_choose 4 none, Cond.fieldLink RX2 18 "Flapline$Planner" "plan" "[I", Cond.methodLink RX2 59 yX2_fewestFrom, Cond.instanceMethod yX2_fewestFrom, Cond.selects RX2 yX2_fewestFrom yX2_fewestFrom, Cond.code yX2_fewestFrom cX2_fewestFrom 6 (some .int), Cond.methodLink RX2 65 yX2_canBeOneStep, Cond.instanceMethod yX2_canBeOneStep, Cond.selects RX2 yX2_canBeOneStep yX2_canBeOneStep, Cond.code yX2_canBeOneStep cX2_canBeOneStep 3 (some .boolean), Cond.methodLink RX2 62 yX2_smallestFrom, Cond.instanceMethod yX2_smallestFrom, Cond.selects RX2 yX2_smallestFrom yX2_smallestFrom, Cond.code yX2_smallestFrom cX2_smallestFrom 5 (some .int), Cond.methodLink RX5 213 yX5_lineFact, Cond.instanceMethod yX5_lineFact, Cond.selects RX5 yX5_lineFact yX5_lineFact, Cond.code yX5_lineFact cX5_lineFact 3 (some .int), Cond.methodLink RX5 127 yX5_at, Cond.methodLink RX5 311 yX5_leastHarm, Cond.instanceMethod yX5_leastHarm, Cond.selects RX5 yX5_leastHarm yX5_leastHarm, Cond.code yX5_leastHarm cX5_leastHarm 3 (some .int), Cond.instanceMethod yX2_flips]
def wsX5_addLineTo_r6 : List Cond := [Cond.selects RX2 yX2_flips yX2_flips, Cond.code yX2_flips cX2_flips 1 (some .int), Cond.methodLink RX2 69 yJ13_bitCount_95d88, Cond.instanceMethod yX2_setOf, Cond.selects RX2 yX2_setOf yX2_setOf, Cond.code yX2_setOf cX2_setOf 2 (some .int), Cond.methodLink RX5 261 yX5_readOfGoal, Cond.instanceMethod yX5_readOfGoal, Cond.selects RX5 yX5_readOfGoal yX5_readOfGoal, Cond.code yX5_readOfGoal cX5_readOfGoal 3 (some .int), Cond.methodLink RX5 324 yX5_readAs, Cond.instanceMethod yX5_readAs, Cond.selects RX5 yX5_readAs yX5_readAs, Cond.code yX5_readAs cX5_readAs 7 (some .int), Cond.fieldLink RX5 48 "Flapline" "blur" "I"]
def wsX5_addLineTo : List Cond := .code yX5_addLineTo cX5_addLineTo 7 (some .long) :: ((wsX5_addLineTo_r1 ++ (wsX5_addLineTo_r2 ++ (wsX5_addLineTo_r3 ++ (wsX5_addLineTo_r4 ++ (wsX5_addLineTo_r5 ++ wsX5_addLineTo_r6))))) ++ wsX50 ++ wsX00 ++ wsX10 ++ wsX20)
def wsX5_digest_r1 : List Cond := [Cond.constantLong RX5 272 (3769), Cond.constantLong RX5 274 (31), Cond.fieldLink RX5 10 "Flapline" "board" "LFlapline$Board;", Cond.fieldLink RX5 19 "Flapline" "book" "LFlapline$Book;", Cond.methodLink RX5 242 yX5_signFact, Cond.instanceMethod yX5_signFact, Cond.selects RX5 yX5_signFact yX5_signFact, Cond.initialized RX5, Cond.code yX5_signFact cX5_signFact 2 (some .int), Cond.fieldLink RX5 44 "Flapline" "power" "I", Cond.fieldLink RX5 48 "Flapline" "blur" "I", Cond.fieldLink RX5 335 "Flapline" "stepsEver" "I", Cond.fieldLink RX5 51 "Flapline" "shownLast" "I", Cond.fieldLink RX5 33 "Flapline" "wire" "LFlapline$Wire;", Cond.fieldLink RX5 40 "Flapline" "route" "LFlapline$Route;", Cond.methodLink RX5 324 yX5_readAs, Cond.instanceMethod yX5_readAs, Cond.selects RX5 yX5_readAs yX5_readAs, Cond.code yX5_readAs cX5_readAs 7 (some .int), Cond.methodLink RX5 254 yX5_distance, Cond.instanceMethod yX5_distance, Cond.selects RX5 yX5_distance yX5_distance, Cond.code yX5_distance cX5_distance 6 (some .int), Cond.methodLink RX5 247 yX5_lastOffset]
def wsX5_digest_r2 : List Cond := [Cond.instanceMethod yX5_lastOffset, Cond.selects RX5 yX5_lastOffset yX5_lastOffset, Cond.code yX5_lastOffset cX5_lastOffset 2 (some .int), Cond.instanceMethod yX1_placed, Cond.initialized RX1, Cond.selects RX1 yX1_placed yX1_placed, Cond.code yX1_placed cX1_placed 3 (some .long), Cond.fieldLink RX1 24 "Flapline$Book" "forms" "[J", Cond.methodLink RX5 328 yJ13_bitCount_95d88, Cond.static yJ13_bitCount_95d88, Cond.initialized RJ13, Cond.code yJ13_bitCount_95d88 cJ13_bitCount_95d88 2 (some .int), Cond.constantLong RJ13 314 (6148914691236517205), Cond.constantLong RJ13 316 (3689348814741910323), Cond.constantLong RJ13 318 (1085102592571150095), Cond.methodLink RX5 258 yX5_lesser, Cond.static yX5_lesser, Cond.code yX5_lesser cX5_lesser 2 (some .int), Cond.instanceMethod yX0_allFlips, Cond.initialized RX0, Cond.selects RX0 yX0_allFlips yX0_allFlips, Cond.code yX0_allFlips cX0_allFlips 3 (some .int), Cond.fieldLink RX0 18 "Flapline$Board" "columns" "I", Cond.methodLink RX0 66 yX0_flipsIn]
def wsX5_digest_r3 : List Cond := [Cond.instanceMethod yX0_flipsIn, Cond.selects RX0 yX0_flipsIn yX0_flipsIn, Cond.code yX0_flipsIn cX0_flipsIn 4 (some .int), Cond.fieldLink RX0 9 "Flapline$Board" "flips" "[I", Cond.static yX5_bitOf, Cond.code yX5_bitOf cX5_bitOf 2 (some .int), Cond.static yX5_at, Cond.code yX5_at cX5_at 2 (some .int), Cond.instanceMethod yX4_fact, Cond.initialized RX4, Cond.selects RX4 yX4_fact yX4_fact, Cond.code yX4_fact cX4_fact 2 (some .int), Cond.fieldLink RX4 24 "Flapline$Wire" "broken" "I", Cond.fieldLink RX4 27 "Flapline$Wire" "old" "I", Cond.fieldLink RX4 21 "Flapline$Wire" "taken" "I", Cond.fieldLink RX4 30 "Flapline$Wire" "unshown" "I", Cond.fieldLink RX4 9 "Flapline$Wire" "lastNumber" "I", Cond.instanceMethod yX3_fact, Cond.initialized RX3, Cond.selects RX3 yX3_fact yX3_fact, Cond.code yX3_fact cX3_fact 2 (some .int), Cond.fieldLink RX3 18 "Flapline$Route" "stops" "I", Cond.fieldLink RX3 29 "Flapline$Route" "next" "I", Cond.fieldLink RX3 26 "Flapline$Route" "turned" "I"]
def wsX5_digest_r4 : List Cond := [Cond.methodLink RX5 205 yX5_columnFact, Cond.instanceMethod yX5_columnFact, Cond.selects RX5 yX5_columnFact yX5_columnFact, Cond.code yX5_columnFact cX5_columnFact 3 (some .int), Cond.methodLink RX5 291 yX5_setIn, Cond.static yX5_setIn, Cond.code yX5_setIn cX5_setIn 3 (some .int), Cond.methodLink RX5 127 yX5_at, Cond.methodLink RX5 297 yJ6_bitCount_0f7a4, Cond.static yJ6_bitCount_0f7a4, Cond.initialized RJ6, Cond.code yJ6_bitCount_0f7a4 cJ6_bitCount_0f7a4 1 (some .int), Cond.constant RJ6 265 (1431655765), Cond.constant RJ6 266 (858993459), Cond.constant RJ6 267 (252645135), Cond.methodLink RX5 276 yX5_addLineTo, Cond.instanceMethod yX5_addLineTo, Cond.selects RX5 yX5_addLineTo yX5_addLineTo, Cond.code yX5_addLineTo cX5_addLineTo 7 (some .long), Cond.fieldLink RX5 26 "Flapline" "planner" "LFlapline$Planner;", Cond.methodLink RX5 210 yX5_makePlan, Cond.instanceMethod yX5_makePlan, Cond.selects RX5 yX5_makePlan yX5_makePlan, Cond.code yX5_makePlan cX5_makePlan 4 none]
def wsX5_digest_r5 : List Cond := [Cond.methodLink RX5 308 yX5_bestOffset, Cond.instanceMethod yX5_bestOffset, Cond.selects RX5 yX5_bestOffset yX5_bestOffset, Cond.code yX5_bestOffset cX5_bestOffset 6 (some .int), Cond.methodLink RX5 345 yX5_harm, Cond.instanceMethod yX5_harm, Cond.selects RX5 yX5_harm yX5_harm, Cond.code yX5_harm cX5_harm 3 (some .int), Cond.instanceMethod yX2_giveUp, Cond.initialized RX2, Cond.selects RX2 yX2_giveUp yX2_giveUp, Cond.code yX2_giveUp cX2_giveUp 1 none, Cond.fieldLink RX2 21 "Flapline$Planner" "steps" "I", Cond.methodLink RX5 348 yX5_goalAt, Cond.instanceMethod yX5_goalAt, Cond.selects RX5 yX5_goalAt yX5_goalAt, Cond.code yX5_goalAt cX5_goalAt 3 (some .long), Cond.instanceMethod yX0_withStuck, Cond.selects RX0 yX0_withStuck yX0_withStuck, Cond.code yX0_withStuck cX0_withStuck 3 (some .long), Cond.fieldLink RX0 26 "Flapline$Board" "stuck" "J", Cond.constantLong RX0 36 (-1), Cond.fieldLink RX0 29 "Flapline$Board" "stuckBright" "J", Cond.instanceMethod yX2_begin]
def wsX5_digest_r6 : List Cond := [Cond.selects RX2 yX2_begin yX2_begin, Cond.code yX2_begin cX2_begin 7 none, Cond.fieldLink RX2 25 "Flapline$Planner" "start" "J", Cond.fieldLink RX2 29 "Flapline$Planner" "goal" "J", Cond.fieldLink RX2 32 "Flapline$Planner" "power" "I", Cond.fieldLink RX2 35 "Flapline$Planner" "changed" "I", Cond.fieldLink RX2 9 "Flapline$Planner" "stepsLeft" "[I", Cond.methodLink RX2 42 yX2_countDots, Cond.instanceMethod yX2_countDots, Cond.selects RX2 yX2_countDots yX2_countDots, Cond.code yX2_countDots cX2_countDots 4 none, Cond.fieldLink RX2 15 "Flapline$Planner" "dotsIn" "[I", Cond.methodLink RX2 45 yJ6_bitCount_0f7a4, Cond.methodLink RX5 314 yX5_says, Cond.instanceMethod yX5_says, Cond.selects RX5 yX5_says yX5_says, Cond.code yX5_says cX5_says 4 (some .boolean), Cond.methodLink RX5 368 yX5_forbidPlacesOf, Cond.instanceMethod yX5_forbidPlacesOf, Cond.selects RX5 yX5_forbidPlacesOf yX5_forbidPlacesOf, Cond.code yX5_forbidPlacesOf cX5_forbidPlacesOf 3 none, Cond.instanceMethod yX2_forbid, Cond.selects RX2 yX2_forbid yX2_forbid, Cond.code yX2_forbid cX2_forbid 6 none]
def wsX5_digest_r7 : List Cond := [Cond.static yX5_put, Cond.code yX5_put cX5_put 3 none, Cond.instanceMethod yX2_choose, Cond.selects RX2 yX2_choose yX2_choose, Cond.code yX2_choose cX2_choose 4 none, Cond.fieldLink RX2 18 "Flapline$Planner" "plan" "[I", Cond.methodLink RX2 59 yX2_fewestFrom, Cond.instanceMethod yX2_fewestFrom, Cond.selects RX2 yX2_fewestFrom yX2_fewestFrom, Cond.code yX2_fewestFrom cX2_fewestFrom 6 (some .int), Cond.methodLink RX2 65 yX2_canBeOneStep, Cond.instanceMethod yX2_canBeOneStep, Cond.selects RX2 yX2_canBeOneStep yX2_canBeOneStep, Cond.code yX2_canBeOneStep cX2_canBeOneStep 3 (some .boolean), Cond.methodLink RX2 62 yX2_smallestFrom, Cond.instanceMethod yX2_smallestFrom, Cond.selects RX2 yX2_smallestFrom yX2_smallestFrom, Cond.code yX2_smallestFrom cX2_smallestFrom 5 (some .int), Cond.methodLink RX5 213 yX5_lineFact, Cond.instanceMethod yX5_lineFact, Cond.selects RX5 yX5_lineFact yX5_lineFact, Cond.code yX5_lineFact cX5_lineFact 3 (some .int), Cond.methodLink RX5 311 yX5_leastHarm, Cond.instanceMethod yX5_leastHarm]
def wsX5_digest_r8 : List Cond := [Cond.selects RX5 yX5_leastHarm yX5_leastHarm, Cond.code yX5_leastHarm cX5_leastHarm 3 (some .int), Cond.instanceMethod yX2_flips, Cond.selects RX2 yX2_flips yX2_flips, Cond.code yX2_flips cX2_flips 1 (some .int), Cond.methodLink RX2 69 yJ13_bitCount_95d88, Cond.instanceMethod yX2_setOf, Cond.selects RX2 yX2_setOf yX2_setOf, Cond.code yX2_setOf cX2_setOf 2 (some .int), Cond.methodLink RX5 261 yX5_readOfGoal, Cond.instanceMethod yX5_readOfGoal, Cond.selects RX5 yX5_readOfGoal yX5_readOfGoal, Cond.code yX5_readOfGoal cX5_readOfGoal 3 (some .int), Cond.methodLink RX5 280 yX5_isSound, Cond.instanceMethod yX5_isSound, Cond.selects RX5 yX5_isSound yX5_isSound, Cond.code yX5_isSound cX5_isSound 2 (some .boolean), Cond.methodLink RX5 264 yX5_planIsTrue, Cond.instanceMethod yX5_planIsTrue, Cond.selects RX5 yX5_planIsTrue yX5_planIsTrue, Cond.code yX5_planIsTrue cX5_planIsTrue 4 (some .boolean), Cond.instanceMethod yX2_pictureBehind, Cond.selects RX2 yX2_pictureBehind yX2_pictureBehind, Cond.code yX2_pictureBehind cX2_pictureBehind 5 (some .long)]
def wsX5_digest_r9 : List Cond := [Cond.constantLong RX2 74 (31), Cond.methodLink RX5 381 yX5_isWrong, Cond.instanceMethod yX5_isWrong, Cond.selects RX5 yX5_isWrong yX5_isWrong, Cond.code yX5_isWrong cX5_isWrong 5 (some .boolean), Cond.instanceMethod yX0_isTrue, Cond.selects RX0 yX0_isTrue yX0_isTrue, Cond.code yX0_isTrue cX0_isTrue 2 (some .boolean), Cond.fieldLink RX0 15 "Flapline$Board" "wear" "[I", Cond.fieldLink RX0 22 "Flapline$Board" "picture" "J", Cond.methodLink RX0 38 yX0_withStuck, Cond.instanceMethod yX3_isTrue, Cond.selects RX3 yX3_isTrue yX3_isTrue, Cond.code yX3_isTrue cX3_isTrue 1 (some .boolean)]
def wsX5_digest : List Cond := .code yX5_digest cX5_digest 5 (some .long) :: ((wsX5_digest_r1 ++ (wsX5_digest_r2 ++ (wsX5_digest_r3 ++ (wsX5_digest_r4 ++ (wsX5_digest_r5 ++ (wsX5_digest_r6 ++ (wsX5_digest_r7 ++ (wsX5_digest_r8 ++ wsX5_digest_r9)))))))) ++ wsX50 ++ wsX00 ++ wsX10 ++ wsX40 ++ wsX30 ++ wsX20)
def wsJ9_max_7cf53 : List Cond := .code yJ9_max_7cf53 cJ9_max_7cf53 2 (some .int) :: ([])
def wsL_below : List Cond := .code yL_below cL_below 2 (some .int) :: ([.constant RL 7 (2147483647)])
def wsL_cell : List Cond := .code yL_cell cL_cell 2 (some .int) :: ([.constant RL 8 (790386105)])
def wsL_list_r1 : List Cond := [Cond.classLink RL 65 "java/lang/IllegalStateException", Cond.methodLink RL 18 yL_below, Cond.static yL_below, Cond.initialized RL, Cond.code yL_below cL_below 2 (some .int), Cond.constant RL 7 (2147483647), Cond.methodLink RL 63 yX5_list, Cond.instanceMethod yX5_list, Cond.selects RX5 yX5_list yX5_list, Cond.initialized RX5, Cond.code yX5_list cX5_list 2 (some .int), Cond.classLink RX5 54 "java/lang/IllegalArgumentException", Cond.initialized "java/lang/IllegalArgumentException", Cond.classLink RX5 81 "java/lang/IllegalStateException", Cond.initialized "java/lang/IllegalStateException", Cond.fieldLink RX5 19 "Flapline" "book" "LFlapline$Book;", Cond.instanceMethod yX1_canSpell, Cond.initialized RX1, Cond.selects RX1 yX1_canSpell yX1_canSpell, Cond.code yX1_canSpell cX1_canSpell 5 (some .boolean), Cond.fieldLink RX1 28 "Flapline$Book" "letters" "I", Cond.instanceMethod yX1_hasRow, Cond.selects RX1 yX1_hasRow yX1_hasRow, Cond.code yX1_hasRow cX1_hasRow 3 (some .boolean)]
def wsL_list_r2 : List Cond := [Cond.fieldLink RX1 36 "Flapline$Book" "lines" "I", Cond.fieldLink RX1 18 "Flapline$Book" "rows" "[I", Cond.static yX5_at, Cond.code yX5_at cX5_at 2 (some .int), Cond.instanceMethod yX1_addLine, Cond.selects RX1 yX1_addLine yX1_addLine, Cond.code yX1_addLine cX1_addLine 7 (some .int), Cond.fieldLink RX1 9 "Flapline$Book" "columnsOfLetters" "[I", Cond.fieldLink RX1 21 "Flapline$Book" "lengths" "[I", Cond.fieldLink RX1 24 "Flapline$Book" "forms" "[J", Cond.methodLink RX1 43 yX1_letterFrom, Cond.instanceMethod yX1_letterFrom, Cond.selects RX1 yX1_letterFrom yX1_letterFrom, Cond.code yX1_letterFrom cX1_letterFrom 3 (some .long), Cond.fieldLink RX1 15 "Flapline$Book" "formsOfLetters" "[I", Cond.static yX5_bitOf, Cond.code yX5_bitOf cX5_bitOf 2 (some .int), Cond.static yX5_put, Cond.code yX5_put cX5_put 3 none, Cond.static yX5_put_, Cond.code yX5_put_ cX5_put_ 4 none, Cond.methodLink RL 34 yX5_sign, Cond.instanceMethod yX5_sign, Cond.selects RX5 yX5_sign yX5_sign]
def wsL_list_r3 : List Cond := [Cond.code yX5_sign cX5_sign 2 (some .int), Cond.methodLink RX5 242 yX5_signFact, Cond.instanceMethod yX5_signFact, Cond.selects RX5 yX5_signFact yX5_signFact, Cond.code yX5_signFact cX5_signFact 2 (some .int), Cond.fieldLink RX5 10 "Flapline" "board" "LFlapline$Board;", Cond.fieldLink RX5 44 "Flapline" "power" "I", Cond.fieldLink RX5 48 "Flapline" "blur" "I", Cond.fieldLink RX5 335 "Flapline" "stepsEver" "I", Cond.fieldLink RX5 51 "Flapline" "shownLast" "I", Cond.fieldLink RX5 33 "Flapline" "wire" "LFlapline$Wire;", Cond.fieldLink RX5 40 "Flapline" "route" "LFlapline$Route;", Cond.methodLink RX5 324 yX5_readAs, Cond.instanceMethod yX5_readAs, Cond.selects RX5 yX5_readAs yX5_readAs, Cond.code yX5_readAs cX5_readAs 7 (some .int), Cond.methodLink RX5 254 yX5_distance, Cond.instanceMethod yX5_distance, Cond.selects RX5 yX5_distance yX5_distance, Cond.code yX5_distance cX5_distance 6 (some .int), Cond.methodLink RX5 247 yX5_lastOffset, Cond.instanceMethod yX5_lastOffset, Cond.selects RX5 yX5_lastOffset yX5_lastOffset, Cond.code yX5_lastOffset cX5_lastOffset 2 (some .int)]
def wsL_list_r4 : List Cond := [Cond.instanceMethod yX1_placed, Cond.selects RX1 yX1_placed yX1_placed, Cond.code yX1_placed cX1_placed 3 (some .long), Cond.methodLink RX5 328 yJ13_bitCount_95d88, Cond.static yJ13_bitCount_95d88, Cond.initialized RJ13, Cond.code yJ13_bitCount_95d88 cJ13_bitCount_95d88 2 (some .int), Cond.constantLong RJ13 314 (6148914691236517205), Cond.constantLong RJ13 316 (3689348814741910323), Cond.constantLong RJ13 318 (1085102592571150095), Cond.methodLink RX5 258 yX5_lesser, Cond.static yX5_lesser, Cond.code yX5_lesser cX5_lesser 2 (some .int), Cond.instanceMethod yX0_allFlips, Cond.initialized RX0, Cond.selects RX0 yX0_allFlips yX0_allFlips, Cond.code yX0_allFlips cX0_allFlips 3 (some .int), Cond.fieldLink RX0 18 "Flapline$Board" "columns" "I", Cond.methodLink RX0 66 yX0_flipsIn, Cond.instanceMethod yX0_flipsIn, Cond.selects RX0 yX0_flipsIn yX0_flipsIn, Cond.code yX0_flipsIn cX0_flipsIn 4 (some .int), Cond.fieldLink RX0 9 "Flapline$Board" "flips" "[I", Cond.instanceMethod yX4_fact]
def wsL_list_r5 : List Cond := [Cond.initialized RX4, Cond.selects RX4 yX4_fact yX4_fact, Cond.code yX4_fact cX4_fact 2 (some .int), Cond.fieldLink RX4 24 "Flapline$Wire" "broken" "I", Cond.fieldLink RX4 27 "Flapline$Wire" "old" "I", Cond.fieldLink RX4 21 "Flapline$Wire" "taken" "I", Cond.fieldLink RX4 30 "Flapline$Wire" "unshown" "I", Cond.fieldLink RX4 9 "Flapline$Wire" "lastNumber" "I", Cond.instanceMethod yX3_fact, Cond.initialized RX3, Cond.selects RX3 yX3_fact yX3_fact, Cond.code yX3_fact cX3_fact 2 (some .int), Cond.fieldLink RX3 18 "Flapline$Route" "stops" "I", Cond.fieldLink RX3 29 "Flapline$Route" "next" "I", Cond.fieldLink RX3 26 "Flapline$Route" "turned" "I"]
def wsL_list : List Cond := .codeWith yL_list cL_list 4 none [(44, 50, 53, 65)] :: ((wsL_list_r1 ++ (wsL_list_r2 ++ (wsL_list_r3 ++ (wsL_list_r4 ++ wsL_list_r5)))) ++ wsX50 ++ wsX10 ++ wsX00 ++ wsX40 ++ wsX30 ++ (vx_atS RX5 58 "java/lang/IllegalArgumentException" ["java/lang/RuntimeException", "java/lang/Exception"]).filter goodWord ++ (vx_atS RX5 85 "java/lang/IllegalStateException" ["java/lang/RuntimeException", "java/lang/Exception"]).filter goodWord)
def wsL_isRight_r1 : List Cond := [Cond.classLink RL 9 RX5, Cond.instantiable RX5 9, Cond.initialized RX5, Cond.methodLink RL 11 yX5_init, Cond.instanceMethod yX5_init, Cond.code yX5_init cX5_init 1 none, Cond.methodLink RX5 1 objectInit, Cond.instanceMethod objectInit, Cond.code objectInit ⟨#[0xb1]⟩ 1 none, Cond.classLink RX5 7 RX0, Cond.instantiable RX0 6, Cond.initialized RX0, Cond.fieldLink RX5 10 "Flapline" "board" "LFlapline$Board;", Cond.classLink RX5 16 RX1, Cond.instantiable RX1 7, Cond.initialized RX1, Cond.fieldLink RX5 19 "Flapline" "book" "LFlapline$Book;", Cond.classLink RX5 23 RX2, Cond.instantiable RX2 8, Cond.initialized RX2, Cond.fieldLink RX5 26 "Flapline" "planner" "LFlapline$Planner;", Cond.classLink RX5 30 RX4, Cond.instantiable RX4 5, Cond.initialized RX4]
def wsL_isRight_r2 : List Cond := [Cond.fieldLink RX5 33 "Flapline" "wire" "LFlapline$Wire;", Cond.classLink RX5 37 RX3, Cond.instantiable RX3 5, Cond.initialized RX3, Cond.fieldLink RX5 40 "Flapline" "route" "LFlapline$Route;", Cond.fieldLink RX5 44 "Flapline" "power" "I", Cond.fieldLink RX5 48 "Flapline" "blur" "I", Cond.fieldLink RX5 51 "Flapline" "shownLast" "I", Cond.instanceMethod yX0_init, Cond.code yX0_init cX0_init 1 none, Cond.methodLink RX0 3 objectInit, Cond.arrayClass .int, Cond.fieldLink RX0 9 "Flapline$Board" "flips" "[I", Cond.fieldLink RX0 15 "Flapline$Board" "wear" "[I", Cond.fieldLink RX0 18 "Flapline$Board" "columns" "I", Cond.instanceMethod yX1_init, Cond.code yX1_init cX1_init 1 none, Cond.methodLink RX1 3 objectInit, Cond.fieldLink RX1 9 "Flapline$Book" "columnsOfLetters" "[I", Cond.fieldLink RX1 15 "Flapline$Book" "formsOfLetters" "[I", Cond.fieldLink RX1 18 "Flapline$Book" "rows" "[I", Cond.fieldLink RX1 21 "Flapline$Book" "lengths" "[I", Cond.arrayClass .long, Cond.fieldLink RX1 24 "Flapline$Book" "forms" "[J"]
def wsL_isRight_r3 : List Cond := [Cond.instanceMethod yX2_init, Cond.code yX2_init cX2_init 1 none, Cond.methodLink RX2 3 objectInit, Cond.fieldLink RX2 9 "Flapline$Planner" "stepsLeft" "[I", Cond.fieldLink RX2 15 "Flapline$Planner" "dotsIn" "[I", Cond.fieldLink RX2 18 "Flapline$Planner" "plan" "[I", Cond.fieldLink RX2 21 "Flapline$Planner" "steps" "I", Cond.instanceMethod yX4_init, Cond.code yX4_init cX4_init 1 none, Cond.methodLink RX4 3 objectInit, Cond.fieldLink RX4 9 "Flapline$Wire" "lastNumber" "I", Cond.instanceMethod yX3_init, Cond.code yX3_init cX3_init 1 none, Cond.methodLink RX3 3 objectInit, Cond.fieldLink RX3 9 "Flapline$Route" "ways" "[I", Cond.fieldLink RX3 15 "Flapline$Route" "linesOfStops" "[I", Cond.methodLink RL 22 yX5_width, Cond.instanceMethod yX5_width, Cond.selects RX5 yX5_width yX5_width, Cond.code yX5_width cX5_width 3 (some .int), Cond.classLink RX5 54 "java/lang/IllegalArgumentException", Cond.initialized "java/lang/IllegalArgumentException", Cond.instanceMethod yX0_begin, Cond.selects RX0 yX0_begin yX0_begin]
def wsL_isRight_r4 : List Cond := [Cond.code yX0_begin cX0_begin 3 none, Cond.fieldLink RX0 22 "Flapline$Board" "picture" "J", Cond.fieldLink RX0 26 "Flapline$Board" "stuck" "J", Cond.fieldLink RX0 29 "Flapline$Board" "stuckBright" "J", Cond.methodLink RL 40 yX5_stick, Cond.instanceMethod yX5_stick, Cond.selects RX5 yX5_stick yX5_stick, Cond.code yX5_stick cX5_stick 5 (some .int), Cond.methodLink RX5 107 yX5_needDot, Cond.instanceMethod yX5_needDot, Cond.selects RX5 yX5_needDot yX5_needDot, Cond.code yX5_needDot cX5_needDot 3 none, Cond.classLink RX5 224 "java/lang/IndexOutOfBoundsException", Cond.initialized "java/lang/IndexOutOfBoundsException", Cond.methodLink RX5 120 yX5_needColumn, Cond.instanceMethod yX5_needColumn, Cond.selects RX5 yX5_needColumn yX5_needColumn, Cond.code yX5_needColumn cX5_needColumn 2 none, Cond.methodLink RX5 221 yX5_isHeight, Cond.static yX5_isHeight, Cond.code yX5_isHeight cX5_isHeight 1 (some .boolean), Cond.instanceMethod yX0_faceOf, Cond.selects RX0 yX0_faceOf yX0_faceOf, Cond.code yX0_faceOf cX0_faceOf 3 (some .int)]
def wsL_isRight_r5 : List Cond := [Cond.static yX5_dotIn, Cond.code yX5_dotIn cX5_dotIn 2 (some .long), Cond.methodLink RX5 199 yX5_bitOf, Cond.static yX5_bitOf, Cond.code yX5_bitOf cX5_bitOf 2 (some .int), Cond.instanceMethod yX0_fix, Cond.selects RX0 yX0_fix yX0_fix, Cond.code yX0_fix cX0_fix 6 none, Cond.constantLong RX0 36 (-1), Cond.methodLink RX0 38 yX0_withStuck, Cond.instanceMethod yX0_withStuck, Cond.selects RX0 yX0_withStuck yX0_withStuck, Cond.code yX0_withStuck cX0_withStuck 3 (some .long), Cond.methodLink RL 26 yX5_letter, Cond.instanceMethod yX5_letter, Cond.selects RX5 yX5_letter yX5_letter, Cond.code yX5_letter cX5_letter 5 (some .int), Cond.classLink RX5 81 "java/lang/IllegalStateException", Cond.initialized "java/lang/IllegalStateException", Cond.methodLink RX5 70 yX5_isColumnSet, Cond.static yX5_isColumnSet, Cond.code yX5_isColumnSet cX5_isColumnSet 1 (some .boolean), Cond.instanceMethod yX1_addLetter, Cond.selects RX1 yX1_addLetter yX1_addLetter]
def wsL_isRight_r6 : List Cond := [Cond.code yX1_addLetter cX1_addLetter 3 (some .int), Cond.fieldLink RX1 28 "Flapline$Book" "letters" "I", Cond.static yX5_put, Cond.code yX5_put cX5_put 3 none, Cond.methodLink RL 67 yX5_ofLine, Cond.instanceMethod yX5_ofLine, Cond.selects RX5 yX5_ofLine yX5_ofLine, Cond.code yX5_ofLine cX5_ofLine 3 (some .int), Cond.methodLink RX5 134 yX5_needLine, Cond.instanceMethod yX5_needLine, Cond.selects RX5 yX5_needLine yX5_needLine, Cond.code yX5_needLine cX5_needLine 2 none, Cond.methodLink RX5 157 yX5_isLine, Cond.instanceMethod yX5_isLine, Cond.selects RX5 yX5_isLine yX5_isLine, Cond.code yX5_isLine cX5_isLine 2 (some .boolean), Cond.methodLink RX5 210 yX5_makePlan, Cond.instanceMethod yX5_makePlan, Cond.selects RX5 yX5_makePlan yX5_makePlan, Cond.code yX5_makePlan cX5_makePlan 4 none, Cond.methodLink RX5 308 yX5_bestOffset, Cond.instanceMethod yX5_bestOffset, Cond.selects RX5 yX5_bestOffset yX5_bestOffset, Cond.code yX5_bestOffset cX5_bestOffset 6 (some .int)]
def wsL_isRight_r7 : List Cond := [Cond.methodLink RX5 247 yX5_lastOffset, Cond.instanceMethod yX5_lastOffset, Cond.selects RX5 yX5_lastOffset yX5_lastOffset, Cond.code yX5_lastOffset cX5_lastOffset 2 (some .int), Cond.methodLink RX5 345 yX5_harm, Cond.instanceMethod yX5_harm, Cond.selects RX5 yX5_harm yX5_harm, Cond.code yX5_harm cX5_harm 3 (some .int), Cond.instanceMethod yX1_placed, Cond.selects RX1 yX1_placed yX1_placed, Cond.code yX1_placed cX1_placed 3 (some .long), Cond.methodLink RX5 328 yJ13_bitCount_95d88, Cond.static yJ13_bitCount_95d88, Cond.initialized RJ13, Cond.code yJ13_bitCount_95d88 cJ13_bitCount_95d88 2 (some .int), Cond.constantLong RJ13 314 (6148914691236517205), Cond.constantLong RJ13 316 (3689348814741910323), Cond.constantLong RJ13 318 (1085102592571150095), Cond.instanceMethod yX2_giveUp, Cond.selects RX2 yX2_giveUp yX2_giveUp, Cond.code yX2_giveUp cX2_giveUp 1 none, Cond.methodLink RX5 348 yX5_goalAt, Cond.instanceMethod yX5_goalAt, Cond.selects RX5 yX5_goalAt yX5_goalAt]
def wsL_isRight_r8 : List Cond := [Cond.code yX5_goalAt cX5_goalAt 3 (some .long), Cond.instanceMethod yX2_begin, Cond.selects RX2 yX2_begin yX2_begin, Cond.code yX2_begin cX2_begin 7 none, Cond.fieldLink RX2 25 "Flapline$Planner" "start" "J", Cond.fieldLink RX2 29 "Flapline$Planner" "goal" "J", Cond.fieldLink RX2 32 "Flapline$Planner" "power" "I", Cond.fieldLink RX2 35 "Flapline$Planner" "changed" "I", Cond.static yX5_setIn, Cond.code yX5_setIn cX5_setIn 3 (some .int), Cond.methodLink RX2 42 yX2_countDots, Cond.instanceMethod yX2_countDots, Cond.selects RX2 yX2_countDots yX2_countDots, Cond.code yX2_countDots cX2_countDots 4 none, Cond.methodLink RX2 45 yJ6_bitCount_0f7a4, Cond.static yJ6_bitCount_0f7a4, Cond.initialized RJ6, Cond.code yJ6_bitCount_0f7a4 cJ6_bitCount_0f7a4 1 (some .int), Cond.constant RJ6 265 (1431655765), Cond.constant RJ6 266 (858993459), Cond.constant RJ6 267 (252645135), Cond.static yX5_at, Cond.code yX5_at cX5_at 2 (some .int), Cond.methodLink RX5 314 yX5_says]
def wsL_isRight_r9 : List Cond := [Cond.instanceMethod yX5_says, Cond.selects RX5 yX5_says yX5_says, Cond.code yX5_says cX5_says 4 (some .boolean), Cond.methodLink RX5 254 yX5_distance, Cond.instanceMethod yX5_distance, Cond.selects RX5 yX5_distance yX5_distance, Cond.code yX5_distance cX5_distance 6 (some .int), Cond.methodLink RX5 258 yX5_lesser, Cond.static yX5_lesser, Cond.code yX5_lesser cX5_lesser 2 (some .int), Cond.methodLink RX5 368 yX5_forbidPlacesOf, Cond.instanceMethod yX5_forbidPlacesOf, Cond.selects RX5 yX5_forbidPlacesOf yX5_forbidPlacesOf, Cond.code yX5_forbidPlacesOf cX5_forbidPlacesOf 3 none, Cond.instanceMethod yX2_forbid, Cond.selects RX2 yX2_forbid yX2_forbid, Cond.code yX2_forbid cX2_forbid 6 none, Cond.instanceMethod yX2_choose, Cond.selects RX2 yX2_choose yX2_choose, Cond.code yX2_choose cX2_choose 4 none, Cond.methodLink RX2 59 yX2_fewestFrom, Cond.instanceMethod yX2_fewestFrom, Cond.selects RX2 yX2_fewestFrom yX2_fewestFrom, Cond.code yX2_fewestFrom cX2_fewestFrom 6 (some .int)]
def wsL_isRight_r10 : List Cond := [Cond.methodLink RX2 65 yX2_canBeOneStep, Cond.instanceMethod yX2_canBeOneStep, Cond.selects RX2 yX2_canBeOneStep yX2_canBeOneStep, Cond.code yX2_canBeOneStep cX2_canBeOneStep 3 (some .boolean), Cond.methodLink RX2 62 yX2_smallestFrom, Cond.instanceMethod yX2_smallestFrom, Cond.selects RX2 yX2_smallestFrom yX2_smallestFrom, Cond.code yX2_smallestFrom cX2_smallestFrom 5 (some .int), Cond.methodLink RX5 213 yX5_lineFact, Cond.instanceMethod yX5_lineFact, Cond.selects RX5 yX5_lineFact yX5_lineFact, Cond.code yX5_lineFact cX5_lineFact 3 (some .int), Cond.methodLink RX5 127 yX5_at, Cond.methodLink RX5 311 yX5_leastHarm, Cond.instanceMethod yX5_leastHarm, Cond.selects RX5 yX5_leastHarm yX5_leastHarm, Cond.code yX5_leastHarm cX5_leastHarm 3 (some .int), Cond.instanceMethod yX2_flips, Cond.selects RX2 yX2_flips yX2_flips, Cond.code yX2_flips cX2_flips 1 (some .int), Cond.methodLink RX2 69 yJ13_bitCount_95d88, Cond.methodLink RL 63 yX5_list, Cond.instanceMethod yX5_list, Cond.selects RX5 yX5_list yX5_list]
def wsL_isRight_r11 : List Cond := [Cond.code yX5_list cX5_list 2 (some .int), Cond.instanceMethod yX1_canSpell, Cond.selects RX1 yX1_canSpell yX1_canSpell, Cond.code yX1_canSpell cX1_canSpell 5 (some .boolean), Cond.instanceMethod yX1_hasRow, Cond.selects RX1 yX1_hasRow yX1_hasRow, Cond.code yX1_hasRow cX1_hasRow 3 (some .boolean), Cond.fieldLink RX1 36 "Flapline$Book" "lines" "I", Cond.instanceMethod yX1_addLine, Cond.selects RX1 yX1_addLine yX1_addLine, Cond.code yX1_addLine cX1_addLine 7 (some .int), Cond.methodLink RX1 43 yX1_letterFrom, Cond.instanceMethod yX1_letterFrom, Cond.selects RX1 yX1_letterFrom yX1_letterFrom, Cond.code yX1_letterFrom cX1_letterFrom 3 (some .long), Cond.static yX5_put_, Cond.code yX5_put_ cX5_put_ 4 none]
def wsL_isRight : List Cond := .code yL_isRight cL_isRight 7 (some .boolean) :: ((wsL_isRight_r1 ++ (wsL_isRight_r2 ++ (wsL_isRight_r3 ++ (wsL_isRight_r4 ++ (wsL_isRight_r5 ++ (wsL_isRight_r6 ++ (wsL_isRight_r7 ++ (wsL_isRight_r8 ++ (wsL_isRight_r9 ++ (wsL_isRight_r10 ++ wsL_isRight_r11)))))))))) ++ wsX50 ++ wsX00 ++ wsX10 ++ wsX20 ++ wsX40 ++ wsX30 ++ (vx_atS RX5 58 "java/lang/IllegalArgumentException" ["java/lang/RuntimeException", "java/lang/Exception"]).filter goodWord ++ (vx_atS RX5 228 "java/lang/IndexOutOfBoundsException" ["java/lang/RuntimeException", "java/lang/Exception"]).filter goodWord ++ (vx_atS RX5 85 "java/lang/IllegalStateException" ["java/lang/RuntimeException", "java/lang/Exception"]).filter goodWord)
def wsL_isShown_r1 : List Cond := [Cond.methodLink RL 70 Lib.Math.max.name, Cond.static Lib.Math.max.name, Cond.initialized "java/lang/Math", Cond.code Lib.Math.max.name Lib.Math.max.code 2 (some .int), Cond.arrayClass .int, Cond.arrayClass .boolean, Cond.methodLink RL 67 yX5_ofLine, Cond.instanceMethod yX5_ofLine, Cond.selects RX5 yX5_ofLine yX5_ofLine, Cond.initialized RX5, Cond.code yX5_ofLine cX5_ofLine 3 (some .int), Cond.classLink RX5 54 "java/lang/IllegalArgumentException", Cond.initialized "java/lang/IllegalArgumentException", Cond.methodLink RX5 134 yX5_needLine, Cond.instanceMethod yX5_needLine, Cond.selects RX5 yX5_needLine yX5_needLine, Cond.code yX5_needLine cX5_needLine 2 none, Cond.classLink RX5 224 "java/lang/IndexOutOfBoundsException", Cond.initialized "java/lang/IndexOutOfBoundsException", Cond.methodLink RX5 157 yX5_isLine, Cond.instanceMethod yX5_isLine, Cond.selects RX5 yX5_isLine yX5_isLine, Cond.code yX5_isLine cX5_isLine 2 (some .boolean), Cond.fieldLink RX5 19 "Flapline" "book" "LFlapline$Book;"]
def wsL_isShown_r2 : List Cond := [Cond.methodLink RX5 210 yX5_makePlan, Cond.instanceMethod yX5_makePlan, Cond.selects RX5 yX5_makePlan yX5_makePlan, Cond.code yX5_makePlan cX5_makePlan 4 none, Cond.fieldLink RX5 26 "Flapline" "planner" "LFlapline$Planner;", Cond.fieldLink RX5 10 "Flapline" "board" "LFlapline$Board;", Cond.fieldLink RX5 44 "Flapline" "power" "I", Cond.methodLink RX5 308 yX5_bestOffset, Cond.instanceMethod yX5_bestOffset, Cond.selects RX5 yX5_bestOffset yX5_bestOffset, Cond.code yX5_bestOffset cX5_bestOffset 6 (some .int), Cond.methodLink RX5 247 yX5_lastOffset, Cond.instanceMethod yX5_lastOffset, Cond.selects RX5 yX5_lastOffset yX5_lastOffset, Cond.code yX5_lastOffset cX5_lastOffset 2 (some .int), Cond.methodLink RX5 345 yX5_harm, Cond.instanceMethod yX5_harm, Cond.selects RX5 yX5_harm yX5_harm, Cond.code yX5_harm cX5_harm 3 (some .int), Cond.instanceMethod yX1_placed, Cond.initialized RX1, Cond.selects RX1 yX1_placed yX1_placed, Cond.code yX1_placed cX1_placed 3 (some .long), Cond.fieldLink RX1 24 "Flapline$Book" "forms" "[J"]
def wsL_isShown_r3 : List Cond := [Cond.methodLink RX5 328 yJ13_bitCount_95d88, Cond.static yJ13_bitCount_95d88, Cond.initialized RJ13, Cond.code yJ13_bitCount_95d88 cJ13_bitCount_95d88 2 (some .int), Cond.constantLong RJ13 314 (6148914691236517205), Cond.constantLong RJ13 316 (3689348814741910323), Cond.constantLong RJ13 318 (1085102592571150095), Cond.instanceMethod yX2_giveUp, Cond.initialized RX2, Cond.selects RX2 yX2_giveUp yX2_giveUp, Cond.code yX2_giveUp cX2_giveUp 1 none, Cond.fieldLink RX2 21 "Flapline$Planner" "steps" "I", Cond.methodLink RX5 348 yX5_goalAt, Cond.instanceMethod yX5_goalAt, Cond.selects RX5 yX5_goalAt yX5_goalAt, Cond.code yX5_goalAt cX5_goalAt 3 (some .long), Cond.instanceMethod yX0_withStuck, Cond.initialized RX0, Cond.selects RX0 yX0_withStuck yX0_withStuck, Cond.code yX0_withStuck cX0_withStuck 3 (some .long), Cond.fieldLink RX0 26 "Flapline$Board" "stuck" "J", Cond.constantLong RX0 36 (-1), Cond.fieldLink RX0 29 "Flapline$Board" "stuckBright" "J", Cond.instanceMethod yX2_begin]
def wsL_isShown_r4 : List Cond := [Cond.selects RX2 yX2_begin yX2_begin, Cond.code yX2_begin cX2_begin 7 none, Cond.fieldLink RX2 25 "Flapline$Planner" "start" "J", Cond.fieldLink RX2 29 "Flapline$Planner" "goal" "J", Cond.fieldLink RX2 32 "Flapline$Planner" "power" "I", Cond.fieldLink RX2 35 "Flapline$Planner" "changed" "I", Cond.fieldLink RX2 9 "Flapline$Planner" "stepsLeft" "[I", Cond.static yX5_setIn, Cond.code yX5_setIn cX5_setIn 3 (some .int), Cond.methodLink RX2 42 yX2_countDots, Cond.instanceMethod yX2_countDots, Cond.selects RX2 yX2_countDots yX2_countDots, Cond.code yX2_countDots cX2_countDots 4 none, Cond.fieldLink RX2 15 "Flapline$Planner" "dotsIn" "[I", Cond.methodLink RX2 45 yJ6_bitCount_0f7a4, Cond.static yJ6_bitCount_0f7a4, Cond.initialized RJ6, Cond.code yJ6_bitCount_0f7a4 cJ6_bitCount_0f7a4 1 (some .int), Cond.constant RJ6 265 (1431655765), Cond.constant RJ6 266 (858993459), Cond.constant RJ6 267 (252645135), Cond.static yX5_at, Cond.code yX5_at cX5_at 2 (some .int), Cond.methodLink RX5 314 yX5_says]
def wsL_isShown_r5 : List Cond := [Cond.instanceMethod yX5_says, Cond.selects RX5 yX5_says yX5_says, Cond.code yX5_says cX5_says 4 (some .boolean), Cond.methodLink RX5 254 yX5_distance, Cond.instanceMethod yX5_distance, Cond.selects RX5 yX5_distance yX5_distance, Cond.code yX5_distance cX5_distance 6 (some .int), Cond.methodLink RX5 258 yX5_lesser, Cond.static yX5_lesser, Cond.code yX5_lesser cX5_lesser 2 (some .int), Cond.methodLink RX5 368 yX5_forbidPlacesOf, Cond.instanceMethod yX5_forbidPlacesOf, Cond.selects RX5 yX5_forbidPlacesOf yX5_forbidPlacesOf, Cond.code yX5_forbidPlacesOf cX5_forbidPlacesOf 3 none, Cond.instanceMethod yX2_forbid, Cond.selects RX2 yX2_forbid yX2_forbid, Cond.code yX2_forbid cX2_forbid 6 none, Cond.static yX5_put, Cond.code yX5_put cX5_put 3 none, Cond.instanceMethod yX2_choose, Cond.selects RX2 yX2_choose yX2_choose, Cond.code yX2_choose cX2_choose 4 none, Cond.fieldLink RX2 18 "Flapline$Planner" "plan" "[I", Cond.methodLink RX2 59 yX2_fewestFrom]
def wsL_isShown_r6 : List Cond := [Cond.instanceMethod yX2_fewestFrom, Cond.selects RX2 yX2_fewestFrom yX2_fewestFrom, Cond.code yX2_fewestFrom cX2_fewestFrom 6 (some .int), Cond.methodLink RX2 65 yX2_canBeOneStep, Cond.instanceMethod yX2_canBeOneStep, Cond.selects RX2 yX2_canBeOneStep yX2_canBeOneStep, Cond.code yX2_canBeOneStep cX2_canBeOneStep 3 (some .boolean), Cond.methodLink RX2 62 yX2_smallestFrom, Cond.instanceMethod yX2_smallestFrom, Cond.selects RX2 yX2_smallestFrom yX2_smallestFrom, Cond.code yX2_smallestFrom cX2_smallestFrom 5 (some .int), Cond.methodLink RX5 213 yX5_lineFact, Cond.instanceMethod yX5_lineFact, Cond.selects RX5 yX5_lineFact yX5_lineFact, Cond.code yX5_lineFact cX5_lineFact 3 (some .int), Cond.methodLink RX5 127 yX5_at, Cond.methodLink RX5 311 yX5_leastHarm, Cond.instanceMethod yX5_leastHarm, Cond.selects RX5 yX5_leastHarm yX5_leastHarm, Cond.code yX5_leastHarm cX5_leastHarm 3 (some .int), Cond.instanceMethod yX2_flips, Cond.selects RX2 yX2_flips yX2_flips, Cond.code yX2_flips cX2_flips 1 (some .int), Cond.methodLink RX2 69 yJ13_bitCount_95d88]
def wsL_isShown_r7 : List Cond := [Cond.methodLink RL 34 yX5_sign, Cond.instanceMethod yX5_sign, Cond.selects RX5 yX5_sign yX5_sign, Cond.code yX5_sign cX5_sign 2 (some .int), Cond.methodLink RX5 242 yX5_signFact, Cond.instanceMethod yX5_signFact, Cond.selects RX5 yX5_signFact yX5_signFact, Cond.code yX5_signFact cX5_signFact 2 (some .int), Cond.fieldLink RX5 48 "Flapline" "blur" "I", Cond.fieldLink RX5 335 "Flapline" "stepsEver" "I", Cond.fieldLink RX5 51 "Flapline" "shownLast" "I", Cond.fieldLink RX5 33 "Flapline" "wire" "LFlapline$Wire;", Cond.fieldLink RX5 40 "Flapline" "route" "LFlapline$Route;", Cond.methodLink RX5 324 yX5_readAs, Cond.instanceMethod yX5_readAs, Cond.selects RX5 yX5_readAs yX5_readAs, Cond.code yX5_readAs cX5_readAs 7 (some .int), Cond.instanceMethod yX0_allFlips, Cond.selects RX0 yX0_allFlips yX0_allFlips, Cond.code yX0_allFlips cX0_allFlips 3 (some .int), Cond.fieldLink RX0 18 "Flapline$Board" "columns" "I", Cond.methodLink RX0 66 yX0_flipsIn, Cond.instanceMethod yX0_flipsIn, Cond.selects RX0 yX0_flipsIn yX0_flipsIn]
def wsL_isShown_r8 : List Cond := [Cond.code yX0_flipsIn cX0_flipsIn 4 (some .int), Cond.fieldLink RX0 9 "Flapline$Board" "flips" "[I", Cond.static yX5_bitOf, Cond.code yX5_bitOf cX5_bitOf 2 (some .int), Cond.instanceMethod yX4_fact, Cond.initialized RX4, Cond.selects RX4 yX4_fact yX4_fact, Cond.code yX4_fact cX4_fact 2 (some .int), Cond.fieldLink RX4 24 "Flapline$Wire" "broken" "I", Cond.fieldLink RX4 27 "Flapline$Wire" "old" "I", Cond.fieldLink RX4 21 "Flapline$Wire" "taken" "I", Cond.fieldLink RX4 30 "Flapline$Wire" "unshown" "I", Cond.fieldLink RX4 9 "Flapline$Wire" "lastNumber" "I", Cond.instanceMethod yX3_fact, Cond.initialized RX3, Cond.selects RX3 yX3_fact yX3_fact, Cond.code yX3_fact cX3_fact 2 (some .int), Cond.fieldLink RX3 18 "Flapline$Route" "stops" "I", Cond.fieldLink RX3 29 "Flapline$Route" "next" "I", Cond.fieldLink RX3 26 "Flapline$Route" "turned" "I", Cond.methodLink RL 75 yX5_step, Cond.instanceMethod yX5_step, Cond.selects RX5 yX5_step yX5_step, Cond.code yX5_step cX5_step 3 (some .int)]
def wsL_isShown_r9 : List Cond := [Cond.instanceMethod yX2_setOf, Cond.selects RX2 yX2_setOf yX2_setOf, Cond.code yX2_setOf cX2_setOf 2 (some .int), Cond.methodLink RL 78 yX5_column, Cond.instanceMethod yX5_column, Cond.selects RX5 yX5_column yX5_column, Cond.code yX5_column cX5_column 3 (some .int), Cond.methodLink RX5 120 yX5_needColumn, Cond.instanceMethod yX5_needColumn, Cond.selects RX5 yX5_needColumn yX5_needColumn, Cond.code yX5_needColumn cX5_needColumn 2 none, Cond.methodLink RX5 205 yX5_columnFact, Cond.instanceMethod yX5_columnFact, Cond.selects RX5 yX5_columnFact yX5_columnFact, Cond.code yX5_columnFact cX5_columnFact 3 (some .int), Cond.methodLink RX5 291 yX5_setIn, Cond.methodLink RX5 297 yJ6_bitCount_0f7a4, Cond.methodLink RL 81 yX5_show, Cond.instanceMethod yX5_show, Cond.selects RX5 yX5_show yX5_show, Cond.code yX5_show cX5_show 2 (some .int), Cond.methodLink RX5 137 yX5_bringUp, Cond.instanceMethod yX5_bringUp, Cond.selects RX5 yX5_bringUp yX5_bringUp]
def wsL_isShown_r10 : List Cond := [Cond.code yX5_bringUp cX5_bringUp 2 (some .int), Cond.instanceMethod yX0_turnTo, Cond.selects RX0 yX0_turnTo yX0_turnTo, Cond.code yX0_turnTo cX0_turnTo 6 none, Cond.fieldLink RX0 22 "Flapline$Board" "picture" "J", Cond.fieldLink RX0 15 "Flapline$Board" "wear" "[I", Cond.methodLink RX0 60 yJ6_bitCount_0f7a4, Cond.methodLink RL 84 yL_isRight, Cond.static yL_isRight, Cond.initialized RL, Cond.code yL_isRight cL_isRight 7 (some .boolean), Cond.classLink RL 9 RX5, Cond.instantiable RX5 9, Cond.methodLink RL 11 yX5_init, Cond.instanceMethod yX5_init, Cond.code yX5_init cX5_init 1 none, Cond.methodLink RX5 1 objectInit, Cond.instanceMethod objectInit, Cond.code objectInit ⟨#[0xb1]⟩ 1 none, Cond.classLink RX5 7 RX0, Cond.instantiable RX0 6, Cond.classLink RX5 16 RX1, Cond.instantiable RX1 7, Cond.classLink RX5 23 RX2]
def wsL_isShown_r11 : List Cond := [Cond.instantiable RX2 8, Cond.classLink RX5 30 RX4, Cond.instantiable RX4 5, Cond.classLink RX5 37 RX3, Cond.instantiable RX3 5, Cond.instanceMethod yX0_init, Cond.code yX0_init cX0_init 1 none, Cond.methodLink RX0 3 objectInit, Cond.instanceMethod yX1_init, Cond.code yX1_init cX1_init 1 none, Cond.methodLink RX1 3 objectInit, Cond.fieldLink RX1 9 "Flapline$Book" "columnsOfLetters" "[I", Cond.fieldLink RX1 15 "Flapline$Book" "formsOfLetters" "[I", Cond.fieldLink RX1 18 "Flapline$Book" "rows" "[I", Cond.fieldLink RX1 21 "Flapline$Book" "lengths" "[I", Cond.arrayClass .long, Cond.instanceMethod yX2_init, Cond.code yX2_init cX2_init 1 none, Cond.methodLink RX2 3 objectInit, Cond.instanceMethod yX4_init, Cond.code yX4_init cX4_init 1 none, Cond.methodLink RX4 3 objectInit, Cond.instanceMethod yX3_init, Cond.code yX3_init cX3_init 1 none]
def wsL_isShown_r12 : List Cond := [Cond.methodLink RX3 3 objectInit, Cond.fieldLink RX3 9 "Flapline$Route" "ways" "[I", Cond.fieldLink RX3 15 "Flapline$Route" "linesOfStops" "[I", Cond.methodLink RL 22 yX5_width, Cond.instanceMethod yX5_width, Cond.selects RX5 yX5_width yX5_width, Cond.code yX5_width cX5_width 3 (some .int), Cond.instanceMethod yX0_begin, Cond.selects RX0 yX0_begin yX0_begin, Cond.code yX0_begin cX0_begin 3 none, Cond.methodLink RL 40 yX5_stick, Cond.instanceMethod yX5_stick, Cond.selects RX5 yX5_stick yX5_stick, Cond.code yX5_stick cX5_stick 5 (some .int), Cond.methodLink RX5 107 yX5_needDot, Cond.instanceMethod yX5_needDot, Cond.selects RX5 yX5_needDot yX5_needDot, Cond.code yX5_needDot cX5_needDot 3 none, Cond.methodLink RX5 221 yX5_isHeight, Cond.static yX5_isHeight, Cond.code yX5_isHeight cX5_isHeight 1 (some .boolean), Cond.instanceMethod yX0_faceOf, Cond.selects RX0 yX0_faceOf yX0_faceOf, Cond.code yX0_faceOf cX0_faceOf 3 (some .int)]
def wsL_isShown_r13 : List Cond := [Cond.static yX5_dotIn, Cond.code yX5_dotIn cX5_dotIn 2 (some .long), Cond.methodLink RX5 199 yX5_bitOf, Cond.instanceMethod yX0_fix, Cond.selects RX0 yX0_fix yX0_fix, Cond.code yX0_fix cX0_fix 6 none, Cond.methodLink RX0 38 yX0_withStuck, Cond.methodLink RL 26 yX5_letter, Cond.instanceMethod yX5_letter, Cond.selects RX5 yX5_letter yX5_letter, Cond.code yX5_letter cX5_letter 5 (some .int), Cond.classLink RX5 81 "java/lang/IllegalStateException", Cond.initialized "java/lang/IllegalStateException", Cond.methodLink RX5 70 yX5_isColumnSet, Cond.static yX5_isColumnSet, Cond.code yX5_isColumnSet cX5_isColumnSet 1 (some .boolean), Cond.instanceMethod yX1_addLetter, Cond.selects RX1 yX1_addLetter yX1_addLetter, Cond.code yX1_addLetter cX1_addLetter 3 (some .int), Cond.fieldLink RX1 28 "Flapline$Book" "letters" "I", Cond.methodLink RL 63 yX5_list, Cond.instanceMethod yX5_list, Cond.selects RX5 yX5_list yX5_list, Cond.code yX5_list cX5_list 2 (some .int)]
def wsL_isShown_r14 : List Cond := [Cond.instanceMethod yX1_canSpell, Cond.selects RX1 yX1_canSpell yX1_canSpell, Cond.code yX1_canSpell cX1_canSpell 5 (some .boolean), Cond.instanceMethod yX1_hasRow, Cond.selects RX1 yX1_hasRow yX1_hasRow, Cond.code yX1_hasRow cX1_hasRow 3 (some .boolean), Cond.fieldLink RX1 36 "Flapline$Book" "lines" "I", Cond.instanceMethod yX1_addLine, Cond.selects RX1 yX1_addLine yX1_addLine, Cond.code yX1_addLine cX1_addLine 7 (some .int), Cond.methodLink RX1 43 yX1_letterFrom, Cond.instanceMethod yX1_letterFrom, Cond.selects RX1 yX1_letterFrom yX1_letterFrom, Cond.code yX1_letterFrom cX1_letterFrom 3 (some .long), Cond.static yX5_put_, Cond.code yX5_put_ cX5_put_ 4 none]
def wsL_isShown : List Cond := .code yL_isShown cL_isShown 15 (some .boolean) :: ((wsL_isShown_r1 ++ (wsL_isShown_r2 ++ (wsL_isShown_r3 ++ (wsL_isShown_r4 ++ (wsL_isShown_r5 ++ (wsL_isShown_r6 ++ (wsL_isShown_r7 ++ (wsL_isShown_r8 ++ (wsL_isShown_r9 ++ (wsL_isShown_r10 ++ (wsL_isShown_r11 ++ (wsL_isShown_r12 ++ (wsL_isShown_r13 ++ wsL_isShown_r14))))))))))))) ++ wsX50 ++ wsX10 ++ wsX00 ++ wsX20 ++ wsX40 ++ wsX30 ++ (vx_atS RX5 58 "java/lang/IllegalArgumentException" ["java/lang/RuntimeException", "java/lang/Exception"]).filter goodWord ++ (vx_atS RX5 228 "java/lang/IndexOutOfBoundsException" ["java/lang/RuntimeException", "java/lang/Exception"]).filter goodWord ++ (vx_atS RX5 85 "java/lang/IllegalStateException" ["java/lang/RuntimeException", "java/lang/Exception"]).filter goodWord)
def wsL_isWell_r1 : List Cond := [Cond.methodLink RL 34 yX5_sign, Cond.instanceMethod yX5_sign, Cond.selects RX5 yX5_sign yX5_sign, Cond.initialized RX5, Cond.code yX5_sign cX5_sign 2 (some .int), Cond.classLink RX5 54 "java/lang/IllegalArgumentException", Cond.initialized "java/lang/IllegalArgumentException", Cond.methodLink RX5 242 yX5_signFact, Cond.instanceMethod yX5_signFact, Cond.selects RX5 yX5_signFact yX5_signFact, Cond.code yX5_signFact cX5_signFact 2 (some .int), Cond.fieldLink RX5 10 "Flapline" "board" "LFlapline$Board;", Cond.fieldLink RX5 44 "Flapline" "power" "I", Cond.fieldLink RX5 48 "Flapline" "blur" "I", Cond.fieldLink RX5 19 "Flapline" "book" "LFlapline$Book;", Cond.fieldLink RX5 335 "Flapline" "stepsEver" "I", Cond.fieldLink RX5 51 "Flapline" "shownLast" "I", Cond.fieldLink RX5 33 "Flapline" "wire" "LFlapline$Wire;", Cond.fieldLink RX5 40 "Flapline" "route" "LFlapline$Route;", Cond.methodLink RX5 324 yX5_readAs, Cond.instanceMethod yX5_readAs, Cond.selects RX5 yX5_readAs yX5_readAs, Cond.code yX5_readAs cX5_readAs 7 (some .int), Cond.methodLink RX5 254 yX5_distance]
def wsL_isWell_r2 : List Cond := [Cond.instanceMethod yX5_distance, Cond.selects RX5 yX5_distance yX5_distance, Cond.code yX5_distance cX5_distance 6 (some .int), Cond.methodLink RX5 247 yX5_lastOffset, Cond.instanceMethod yX5_lastOffset, Cond.selects RX5 yX5_lastOffset yX5_lastOffset, Cond.code yX5_lastOffset cX5_lastOffset 2 (some .int), Cond.instanceMethod yX1_placed, Cond.initialized RX1, Cond.selects RX1 yX1_placed yX1_placed, Cond.code yX1_placed cX1_placed 3 (some .long), Cond.fieldLink RX1 24 "Flapline$Book" "forms" "[J", Cond.methodLink RX5 328 yJ13_bitCount_95d88, Cond.static yJ13_bitCount_95d88, Cond.initialized RJ13, Cond.code yJ13_bitCount_95d88 cJ13_bitCount_95d88 2 (some .int), Cond.constantLong RJ13 314 (6148914691236517205), Cond.constantLong RJ13 316 (3689348814741910323), Cond.constantLong RJ13 318 (1085102592571150095), Cond.methodLink RX5 258 yX5_lesser, Cond.static yX5_lesser, Cond.code yX5_lesser cX5_lesser 2 (some .int), Cond.instanceMethod yX0_allFlips, Cond.initialized RX0]
def wsL_isWell_r3 : List Cond := [Cond.selects RX0 yX0_allFlips yX0_allFlips, Cond.code yX0_allFlips cX0_allFlips 3 (some .int), Cond.fieldLink RX0 18 "Flapline$Board" "columns" "I", Cond.methodLink RX0 66 yX0_flipsIn, Cond.instanceMethod yX0_flipsIn, Cond.selects RX0 yX0_flipsIn yX0_flipsIn, Cond.code yX0_flipsIn cX0_flipsIn 4 (some .int), Cond.fieldLink RX0 9 "Flapline$Board" "flips" "[I", Cond.static yX5_bitOf, Cond.code yX5_bitOf cX5_bitOf 2 (some .int), Cond.static yX5_at, Cond.code yX5_at cX5_at 2 (some .int), Cond.instanceMethod yX4_fact, Cond.initialized RX4, Cond.selects RX4 yX4_fact yX4_fact, Cond.code yX4_fact cX4_fact 2 (some .int), Cond.fieldLink RX4 24 "Flapline$Wire" "broken" "I", Cond.fieldLink RX4 27 "Flapline$Wire" "old" "I", Cond.fieldLink RX4 21 "Flapline$Wire" "taken" "I", Cond.fieldLink RX4 30 "Flapline$Wire" "unshown" "I", Cond.fieldLink RX4 9 "Flapline$Wire" "lastNumber" "I", Cond.instanceMethod yX3_fact, Cond.initialized RX3, Cond.selects RX3 yX3_fact yX3_fact]
def wsL_isWell_r4 : List Cond := [Cond.code yX3_fact cX3_fact 2 (some .int), Cond.fieldLink RX3 18 "Flapline$Route" "stops" "I", Cond.fieldLink RX3 29 "Flapline$Route" "next" "I", Cond.fieldLink RX3 26 "Flapline$Route" "turned" "I", Cond.methodLink RL 67 yX5_ofLine, Cond.instanceMethod yX5_ofLine, Cond.selects RX5 yX5_ofLine yX5_ofLine, Cond.code yX5_ofLine cX5_ofLine 3 (some .int), Cond.methodLink RX5 134 yX5_needLine, Cond.instanceMethod yX5_needLine, Cond.selects RX5 yX5_needLine yX5_needLine, Cond.code yX5_needLine cX5_needLine 2 none, Cond.classLink RX5 224 "java/lang/IndexOutOfBoundsException", Cond.initialized "java/lang/IndexOutOfBoundsException", Cond.methodLink RX5 157 yX5_isLine, Cond.instanceMethod yX5_isLine, Cond.selects RX5 yX5_isLine yX5_isLine, Cond.code yX5_isLine cX5_isLine 2 (some .boolean), Cond.methodLink RX5 210 yX5_makePlan, Cond.instanceMethod yX5_makePlan, Cond.selects RX5 yX5_makePlan yX5_makePlan, Cond.code yX5_makePlan cX5_makePlan 4 none, Cond.fieldLink RX5 26 "Flapline" "planner" "LFlapline$Planner;", Cond.methodLink RX5 308 yX5_bestOffset]
def wsL_isWell_r5 : List Cond := [Cond.instanceMethod yX5_bestOffset, Cond.selects RX5 yX5_bestOffset yX5_bestOffset, Cond.code yX5_bestOffset cX5_bestOffset 6 (some .int), Cond.methodLink RX5 345 yX5_harm, Cond.instanceMethod yX5_harm, Cond.selects RX5 yX5_harm yX5_harm, Cond.code yX5_harm cX5_harm 3 (some .int), Cond.instanceMethod yX2_giveUp, Cond.initialized RX2, Cond.selects RX2 yX2_giveUp yX2_giveUp, Cond.code yX2_giveUp cX2_giveUp 1 none, Cond.fieldLink RX2 21 "Flapline$Planner" "steps" "I", Cond.methodLink RX5 348 yX5_goalAt, Cond.instanceMethod yX5_goalAt, Cond.selects RX5 yX5_goalAt yX5_goalAt, Cond.code yX5_goalAt cX5_goalAt 3 (some .long), Cond.instanceMethod yX0_withStuck, Cond.selects RX0 yX0_withStuck yX0_withStuck, Cond.code yX0_withStuck cX0_withStuck 3 (some .long), Cond.fieldLink RX0 26 "Flapline$Board" "stuck" "J", Cond.constantLong RX0 36 (-1), Cond.fieldLink RX0 29 "Flapline$Board" "stuckBright" "J", Cond.instanceMethod yX2_begin, Cond.selects RX2 yX2_begin yX2_begin]
def wsL_isWell_r6 : List Cond := [Cond.code yX2_begin cX2_begin 7 none, Cond.fieldLink RX2 25 "Flapline$Planner" "start" "J", Cond.fieldLink RX2 29 "Flapline$Planner" "goal" "J", Cond.fieldLink RX2 32 "Flapline$Planner" "power" "I", Cond.fieldLink RX2 35 "Flapline$Planner" "changed" "I", Cond.fieldLink RX2 9 "Flapline$Planner" "stepsLeft" "[I", Cond.static yX5_setIn, Cond.code yX5_setIn cX5_setIn 3 (some .int), Cond.methodLink RX2 42 yX2_countDots, Cond.instanceMethod yX2_countDots, Cond.selects RX2 yX2_countDots yX2_countDots, Cond.code yX2_countDots cX2_countDots 4 none, Cond.fieldLink RX2 15 "Flapline$Planner" "dotsIn" "[I", Cond.methodLink RX2 45 yJ6_bitCount_0f7a4, Cond.static yJ6_bitCount_0f7a4, Cond.initialized RJ6, Cond.code yJ6_bitCount_0f7a4 cJ6_bitCount_0f7a4 1 (some .int), Cond.constant RJ6 265 (1431655765), Cond.constant RJ6 266 (858993459), Cond.constant RJ6 267 (252645135), Cond.methodLink RX5 314 yX5_says, Cond.instanceMethod yX5_says, Cond.selects RX5 yX5_says yX5_says, Cond.code yX5_says cX5_says 4 (some .boolean)]
def wsL_isWell_r7 : List Cond := [Cond.methodLink RX5 368 yX5_forbidPlacesOf, Cond.instanceMethod yX5_forbidPlacesOf, Cond.selects RX5 yX5_forbidPlacesOf yX5_forbidPlacesOf, Cond.code yX5_forbidPlacesOf cX5_forbidPlacesOf 3 none, Cond.instanceMethod yX2_forbid, Cond.selects RX2 yX2_forbid yX2_forbid, Cond.code yX2_forbid cX2_forbid 6 none, Cond.static yX5_put, Cond.code yX5_put cX5_put 3 none, Cond.instanceMethod yX2_choose, Cond.selects RX2 yX2_choose yX2_choose, Cond.code yX2_choose cX2_choose 4 none, Cond.fieldLink RX2 18 "Flapline$Planner" "plan" "[I", Cond.methodLink RX2 59 yX2_fewestFrom, Cond.instanceMethod yX2_fewestFrom, Cond.selects RX2 yX2_fewestFrom yX2_fewestFrom, Cond.code yX2_fewestFrom cX2_fewestFrom 6 (some .int), Cond.methodLink RX2 65 yX2_canBeOneStep, Cond.instanceMethod yX2_canBeOneStep, Cond.selects RX2 yX2_canBeOneStep yX2_canBeOneStep, Cond.code yX2_canBeOneStep cX2_canBeOneStep 3 (some .boolean), Cond.methodLink RX2 62 yX2_smallestFrom, Cond.instanceMethod yX2_smallestFrom, Cond.selects RX2 yX2_smallestFrom yX2_smallestFrom]
def wsL_isWell_r8 : List Cond := [Cond.code yX2_smallestFrom cX2_smallestFrom 5 (some .int), Cond.methodLink RX5 213 yX5_lineFact, Cond.instanceMethod yX5_lineFact, Cond.selects RX5 yX5_lineFact yX5_lineFact, Cond.code yX5_lineFact cX5_lineFact 3 (some .int), Cond.methodLink RX5 127 yX5_at, Cond.methodLink RX5 311 yX5_leastHarm, Cond.instanceMethod yX5_leastHarm, Cond.selects RX5 yX5_leastHarm yX5_leastHarm, Cond.code yX5_leastHarm cX5_leastHarm 3 (some .int), Cond.instanceMethod yX2_flips, Cond.selects RX2 yX2_flips yX2_flips, Cond.code yX2_flips cX2_flips 1 (some .int), Cond.methodLink RX2 69 yJ13_bitCount_95d88, Cond.methodLink RL 88 yX5_dot, Cond.instanceMethod yX5_dot, Cond.selects RX5 yX5_dot yX5_dot, Cond.code yX5_dot cX5_dot 4 (some .int), Cond.methodLink RX5 107 yX5_needDot, Cond.instanceMethod yX5_needDot, Cond.selects RX5 yX5_needDot yX5_needDot, Cond.code yX5_needDot cX5_needDot 3 none, Cond.methodLink RX5 120 yX5_needColumn, Cond.instanceMethod yX5_needColumn]
def wsL_isWell_r9 : List Cond := [Cond.selects RX5 yX5_needColumn yX5_needColumn, Cond.code yX5_needColumn cX5_needColumn 2 none, Cond.methodLink RX5 221 yX5_isHeight, Cond.static yX5_isHeight, Cond.code yX5_isHeight cX5_isHeight 1 (some .boolean), Cond.instanceMethod yX0_faceOf, Cond.selects RX0 yX0_faceOf yX0_faceOf, Cond.code yX0_faceOf cX0_faceOf 3 (some .int), Cond.fieldLink RX0 22 "Flapline$Board" "picture" "J", Cond.static yX5_dotIn, Cond.code yX5_dotIn cX5_dotIn 2 (some .long), Cond.methodLink RX5 199 yX5_bitOf, Cond.instanceMethod yX0_stuckFaceOf, Cond.selects RX0 yX0_stuckFaceOf yX0_stuckFaceOf, Cond.code yX0_stuckFaceOf cX0_stuckFaceOf 5 (some .int), Cond.methodLink RL 78 yX5_column, Cond.instanceMethod yX5_column, Cond.selects RX5 yX5_column yX5_column, Cond.code yX5_column cX5_column 3 (some .int), Cond.methodLink RX5 205 yX5_columnFact, Cond.instanceMethod yX5_columnFact, Cond.selects RX5 yX5_columnFact yX5_columnFact, Cond.code yX5_columnFact cX5_columnFact 3 (some .int), Cond.methodLink RX5 291 yX5_setIn]
def wsL_isWell_r10 : List Cond := [Cond.methodLink RX5 297 yJ6_bitCount_0f7a4, Cond.methodLink RL 59 yX5_isSound, Cond.instanceMethod yX5_isSound, Cond.selects RX5 yX5_isSound yX5_isSound, Cond.code yX5_isSound cX5_isSound 2 (some .boolean), Cond.methodLink RX5 264 yX5_planIsTrue, Cond.instanceMethod yX5_planIsTrue, Cond.selects RX5 yX5_planIsTrue yX5_planIsTrue, Cond.code yX5_planIsTrue cX5_planIsTrue 4 (some .boolean), Cond.instanceMethod yX2_setOf, Cond.selects RX2 yX2_setOf yX2_setOf, Cond.code yX2_setOf cX2_setOf 2 (some .int), Cond.instanceMethod yX2_pictureBehind, Cond.selects RX2 yX2_pictureBehind yX2_pictureBehind, Cond.code yX2_pictureBehind cX2_pictureBehind 5 (some .long), Cond.constantLong RX2 74 (31), Cond.methodLink RX5 381 yX5_isWrong, Cond.instanceMethod yX5_isWrong, Cond.selects RX5 yX5_isWrong yX5_isWrong, Cond.code yX5_isWrong cX5_isWrong 5 (some .boolean), Cond.instanceMethod yX0_isTrue, Cond.selects RX0 yX0_isTrue yX0_isTrue, Cond.code yX0_isTrue cX0_isTrue 2 (some .boolean), Cond.fieldLink RX0 15 "Flapline$Board" "wear" "[I"]
def wsL_isWell_r11 : List Cond := [Cond.methodLink RX0 38 yX0_withStuck, Cond.instanceMethod yX3_isTrue, Cond.selects RX3 yX3_isTrue yX3_isTrue, Cond.code yX3_isTrue cX3_isTrue 1 (some .boolean)]
def wsL_isWell : List Cond := .code yL_isWell cL_isWell 6 (some .boolean) :: ((wsL_isWell_r1 ++ (wsL_isWell_r2 ++ (wsL_isWell_r3 ++ (wsL_isWell_r4 ++ (wsL_isWell_r5 ++ (wsL_isWell_r6 ++ (wsL_isWell_r7 ++ (wsL_isWell_r8 ++ (wsL_isWell_r9 ++ (wsL_isWell_r10 ++ wsL_isWell_r11)))))))))) ++ wsX50 ++ wsX00 ++ wsX10 ++ wsX40 ++ wsX30 ++ wsX20 ++ (vx_atS RX5 58 "java/lang/IllegalArgumentException" ["java/lang/RuntimeException", "java/lang/Exception"]).filter goodWord ++ (vx_atS RX5 228 "java/lang/IndexOutOfBoundsException" ["java/lang/RuntimeException", "java/lang/Exception"]).filter goodWord)
def wsL_law0_r1 : List Cond := [Cond.classLink RL 9 RX5, Cond.instantiable RX5 9, Cond.initialized RX5, Cond.arrayClass .int, Cond.methodLink RL 11 yX5_init, Cond.instanceMethod yX5_init, Cond.code yX5_init cX5_init 1 none, Cond.methodLink RX5 1 objectInit, Cond.instanceMethod objectInit, Cond.code objectInit ⟨#[0xb1]⟩ 1 none, Cond.classLink RX5 7 RX0, Cond.instantiable RX0 6, Cond.initialized RX0, Cond.fieldLink RX5 10 "Flapline" "board" "LFlapline$Board;", Cond.classLink RX5 16 RX1, Cond.instantiable RX1 7, Cond.initialized RX1, Cond.fieldLink RX5 19 "Flapline" "book" "LFlapline$Book;", Cond.classLink RX5 23 RX2, Cond.instantiable RX2 8, Cond.initialized RX2, Cond.fieldLink RX5 26 "Flapline" "planner" "LFlapline$Planner;", Cond.classLink RX5 30 RX4, Cond.instantiable RX4 5]
def wsL_law0_r2 : List Cond := [Cond.initialized RX4, Cond.fieldLink RX5 33 "Flapline" "wire" "LFlapline$Wire;", Cond.classLink RX5 37 RX3, Cond.instantiable RX3 5, Cond.initialized RX3, Cond.fieldLink RX5 40 "Flapline" "route" "LFlapline$Route;", Cond.fieldLink RX5 44 "Flapline" "power" "I", Cond.fieldLink RX5 48 "Flapline" "blur" "I", Cond.fieldLink RX5 51 "Flapline" "shownLast" "I", Cond.instanceMethod yX0_init, Cond.code yX0_init cX0_init 1 none, Cond.methodLink RX0 3 objectInit, Cond.fieldLink RX0 9 "Flapline$Board" "flips" "[I", Cond.fieldLink RX0 15 "Flapline$Board" "wear" "[I", Cond.fieldLink RX0 18 "Flapline$Board" "columns" "I", Cond.instanceMethod yX1_init, Cond.code yX1_init cX1_init 1 none, Cond.methodLink RX1 3 objectInit, Cond.fieldLink RX1 9 "Flapline$Book" "columnsOfLetters" "[I", Cond.fieldLink RX1 15 "Flapline$Book" "formsOfLetters" "[I", Cond.fieldLink RX1 18 "Flapline$Book" "rows" "[I", Cond.fieldLink RX1 21 "Flapline$Book" "lengths" "[I", Cond.arrayClass .long, Cond.fieldLink RX1 24 "Flapline$Book" "forms" "[J"]
def wsL_law0_r3 : List Cond := [Cond.instanceMethod yX2_init, Cond.code yX2_init cX2_init 1 none, Cond.methodLink RX2 3 objectInit, Cond.fieldLink RX2 9 "Flapline$Planner" "stepsLeft" "[I", Cond.fieldLink RX2 15 "Flapline$Planner" "dotsIn" "[I", Cond.fieldLink RX2 18 "Flapline$Planner" "plan" "[I", Cond.fieldLink RX2 21 "Flapline$Planner" "steps" "I", Cond.instanceMethod yX4_init, Cond.code yX4_init cX4_init 1 none, Cond.methodLink RX4 3 objectInit, Cond.fieldLink RX4 9 "Flapline$Wire" "lastNumber" "I", Cond.instanceMethod yX3_init, Cond.code yX3_init cX3_init 1 none, Cond.methodLink RX3 3 objectInit, Cond.fieldLink RX3 9 "Flapline$Route" "ways" "[I", Cond.fieldLink RX3 15 "Flapline$Route" "linesOfStops" "[I", Cond.methodLink RL 12 yL_cell, Cond.static yL_cell, Cond.initialized RL, Cond.code yL_cell cL_cell 2 (some .int), Cond.constant RL 8 (790386105), Cond.methodLink RL 18 yL_below, Cond.static yL_below, Cond.code yL_below cL_below 2 (some .int)]
def wsL_law0_r4 : List Cond := [Cond.constant RL 7 (2147483647), Cond.methodLink RL 22 yX5_width, Cond.instanceMethod yX5_width, Cond.selects RX5 yX5_width yX5_width, Cond.code yX5_width cX5_width 3 (some .int), Cond.classLink RX5 54 "java/lang/IllegalArgumentException", Cond.initialized "java/lang/IllegalArgumentException", Cond.instanceMethod yX0_begin, Cond.selects RX0 yX0_begin yX0_begin, Cond.code yX0_begin cX0_begin 3 none, Cond.fieldLink RX0 22 "Flapline$Board" "picture" "J", Cond.fieldLink RX0 26 "Flapline$Board" "stuck" "J", Cond.fieldLink RX0 29 "Flapline$Board" "stuckBright" "J", Cond.methodLink RL 26 yX5_letter, Cond.instanceMethod yX5_letter, Cond.selects RX5 yX5_letter yX5_letter, Cond.code yX5_letter cX5_letter 5 (some .int), Cond.classLink RX5 81 "java/lang/IllegalStateException", Cond.initialized "java/lang/IllegalStateException", Cond.methodLink RX5 70 yX5_isColumnSet, Cond.static yX5_isColumnSet, Cond.code yX5_isColumnSet cX5_isColumnSet 1 (some .boolean), Cond.instanceMethod yX1_addLetter, Cond.selects RX1 yX1_addLetter yX1_addLetter]
def wsL_law0_r5 : List Cond := [Cond.code yX1_addLetter cX1_addLetter 3 (some .int), Cond.fieldLink RX1 28 "Flapline$Book" "letters" "I", Cond.static yX5_put, Cond.code yX5_put cX5_put 3 none, Cond.methodLink RL 30 yL_list, Cond.static yL_list, Cond.codeWith yL_list cL_list 4 none [(44, 50, 53, 65)], Cond.classLink RL 65 "java/lang/IllegalStateException", Cond.methodLink RL 63 yX5_list, Cond.instanceMethod yX5_list, Cond.selects RX5 yX5_list yX5_list, Cond.code yX5_list cX5_list 2 (some .int), Cond.instanceMethod yX1_canSpell, Cond.selects RX1 yX1_canSpell yX1_canSpell, Cond.code yX1_canSpell cX1_canSpell 5 (some .boolean), Cond.instanceMethod yX1_hasRow, Cond.selects RX1 yX1_hasRow yX1_hasRow, Cond.code yX1_hasRow cX1_hasRow 3 (some .boolean), Cond.fieldLink RX1 36 "Flapline$Book" "lines" "I", Cond.static yX5_at, Cond.code yX5_at cX5_at 2 (some .int), Cond.instanceMethod yX1_addLine, Cond.selects RX1 yX1_addLine yX1_addLine, Cond.code yX1_addLine cX1_addLine 7 (some .int)]
def wsL_law0_r6 : List Cond := [Cond.methodLink RX1 43 yX1_letterFrom, Cond.instanceMethod yX1_letterFrom, Cond.selects RX1 yX1_letterFrom yX1_letterFrom, Cond.code yX1_letterFrom cX1_letterFrom 3 (some .long), Cond.static yX5_bitOf, Cond.code yX5_bitOf cX5_bitOf 2 (some .int), Cond.static yX5_put_, Cond.code yX5_put_ cX5_put_ 4 none, Cond.methodLink RL 34 yX5_sign, Cond.instanceMethod yX5_sign, Cond.selects RX5 yX5_sign yX5_sign, Cond.code yX5_sign cX5_sign 2 (some .int), Cond.methodLink RX5 242 yX5_signFact, Cond.instanceMethod yX5_signFact, Cond.selects RX5 yX5_signFact yX5_signFact, Cond.code yX5_signFact cX5_signFact 2 (some .int), Cond.fieldLink RX5 335 "Flapline" "stepsEver" "I", Cond.methodLink RX5 324 yX5_readAs, Cond.instanceMethod yX5_readAs, Cond.selects RX5 yX5_readAs yX5_readAs, Cond.code yX5_readAs cX5_readAs 7 (some .int), Cond.methodLink RX5 254 yX5_distance, Cond.instanceMethod yX5_distance, Cond.selects RX5 yX5_distance yX5_distance]
def wsL_law0_r7 : List Cond := [Cond.code yX5_distance cX5_distance 6 (some .int), Cond.methodLink RX5 247 yX5_lastOffset, Cond.instanceMethod yX5_lastOffset, Cond.selects RX5 yX5_lastOffset yX5_lastOffset, Cond.code yX5_lastOffset cX5_lastOffset 2 (some .int), Cond.instanceMethod yX1_placed, Cond.selects RX1 yX1_placed yX1_placed, Cond.code yX1_placed cX1_placed 3 (some .long), Cond.methodLink RX5 328 yJ13_bitCount_95d88, Cond.static yJ13_bitCount_95d88, Cond.initialized RJ13, Cond.code yJ13_bitCount_95d88 cJ13_bitCount_95d88 2 (some .int), Cond.constantLong RJ13 314 (6148914691236517205), Cond.constantLong RJ13 316 (3689348814741910323), Cond.constantLong RJ13 318 (1085102592571150095), Cond.methodLink RX5 258 yX5_lesser, Cond.static yX5_lesser, Cond.code yX5_lesser cX5_lesser 2 (some .int), Cond.instanceMethod yX0_allFlips, Cond.selects RX0 yX0_allFlips yX0_allFlips, Cond.code yX0_allFlips cX0_allFlips 3 (some .int), Cond.methodLink RX0 66 yX0_flipsIn, Cond.instanceMethod yX0_flipsIn, Cond.selects RX0 yX0_flipsIn yX0_flipsIn]
def wsL_law0_r8 : List Cond := [Cond.code yX0_flipsIn cX0_flipsIn 4 (some .int), Cond.instanceMethod yX4_fact, Cond.selects RX4 yX4_fact yX4_fact, Cond.code yX4_fact cX4_fact 2 (some .int), Cond.fieldLink RX4 24 "Flapline$Wire" "broken" "I", Cond.fieldLink RX4 27 "Flapline$Wire" "old" "I", Cond.fieldLink RX4 21 "Flapline$Wire" "taken" "I", Cond.fieldLink RX4 30 "Flapline$Wire" "unshown" "I", Cond.instanceMethod yX3_fact, Cond.selects RX3 yX3_fact yX3_fact, Cond.code yX3_fact cX3_fact 2 (some .int), Cond.fieldLink RX3 18 "Flapline$Route" "stops" "I", Cond.fieldLink RX3 29 "Flapline$Route" "next" "I", Cond.fieldLink RX3 26 "Flapline$Route" "turned" "I", Cond.methodLink RL 37 yX5_power, Cond.instanceMethod yX5_power, Cond.selects RX5 yX5_power yX5_power, Cond.code yX5_power cX5_power 4 (some .int), Cond.methodLink RL 40 yX5_stick, Cond.instanceMethod yX5_stick, Cond.selects RX5 yX5_stick yX5_stick, Cond.code yX5_stick cX5_stick 5 (some .int), Cond.methodLink RX5 107 yX5_needDot, Cond.instanceMethod yX5_needDot]
def wsL_law0_r9 : List Cond := [Cond.selects RX5 yX5_needDot yX5_needDot, Cond.code yX5_needDot cX5_needDot 3 none, Cond.classLink RX5 224 "java/lang/IndexOutOfBoundsException", Cond.initialized "java/lang/IndexOutOfBoundsException", Cond.methodLink RX5 120 yX5_needColumn, Cond.instanceMethod yX5_needColumn, Cond.selects RX5 yX5_needColumn yX5_needColumn, Cond.code yX5_needColumn cX5_needColumn 2 none, Cond.methodLink RX5 221 yX5_isHeight, Cond.static yX5_isHeight, Cond.code yX5_isHeight cX5_isHeight 1 (some .boolean), Cond.instanceMethod yX0_faceOf, Cond.selects RX0 yX0_faceOf yX0_faceOf, Cond.code yX0_faceOf cX0_faceOf 3 (some .int), Cond.static yX5_dotIn, Cond.code yX5_dotIn cX5_dotIn 2 (some .long), Cond.methodLink RX5 199 yX5_bitOf, Cond.instanceMethod yX0_fix, Cond.selects RX0 yX0_fix yX0_fix, Cond.code yX0_fix cX0_fix 6 none, Cond.constantLong RX0 36 (-1), Cond.methodLink RX0 38 yX0_withStuck, Cond.instanceMethod yX0_withStuck, Cond.selects RX0 yX0_withStuck yX0_withStuck]
def wsL_law0_r10 : List Cond := [Cond.code yX0_withStuck cX0_withStuck 3 (some .long), Cond.methodLink RL 44 yX5_swap, Cond.instanceMethod yX5_swap, Cond.selects RX5 yX5_swap yX5_swap, Cond.code yX5_swap cX5_swap 3 (some .int), Cond.methodLink RX5 127 yX5_at, Cond.instanceMethod yX0_renewColumn, Cond.selects RX0 yX0_renewColumn yX0_renewColumn, Cond.code yX0_renewColumn cX0_renewColumn 4 none, Cond.constantLong RX0 42 (31), Cond.methodLink RL 47 yL_isShown, Cond.static yL_isShown, Cond.code yL_isShown cL_isShown 15 (some .boolean), Cond.methodLink RL 70 Lib.Math.max.name, Cond.static Lib.Math.max.name, Cond.initialized "java/lang/Math", Cond.code Lib.Math.max.name Lib.Math.max.code 2 (some .int), Cond.arrayClass .boolean, Cond.methodLink RL 67 yX5_ofLine, Cond.instanceMethod yX5_ofLine, Cond.selects RX5 yX5_ofLine yX5_ofLine, Cond.code yX5_ofLine cX5_ofLine 3 (some .int), Cond.methodLink RX5 134 yX5_needLine, Cond.instanceMethod yX5_needLine]
def wsL_law0_r11 : List Cond := [Cond.selects RX5 yX5_needLine yX5_needLine, Cond.code yX5_needLine cX5_needLine 2 none, Cond.methodLink RX5 157 yX5_isLine, Cond.instanceMethod yX5_isLine, Cond.selects RX5 yX5_isLine yX5_isLine, Cond.code yX5_isLine cX5_isLine 2 (some .boolean), Cond.methodLink RX5 210 yX5_makePlan, Cond.instanceMethod yX5_makePlan, Cond.selects RX5 yX5_makePlan yX5_makePlan, Cond.code yX5_makePlan cX5_makePlan 4 none, Cond.methodLink RX5 308 yX5_bestOffset, Cond.instanceMethod yX5_bestOffset, Cond.selects RX5 yX5_bestOffset yX5_bestOffset, Cond.code yX5_bestOffset cX5_bestOffset 6 (some .int), Cond.methodLink RX5 345 yX5_harm, Cond.instanceMethod yX5_harm, Cond.selects RX5 yX5_harm yX5_harm, Cond.code yX5_harm cX5_harm 3 (some .int), Cond.instanceMethod yX2_giveUp, Cond.selects RX2 yX2_giveUp yX2_giveUp, Cond.code yX2_giveUp cX2_giveUp 1 none, Cond.methodLink RX5 348 yX5_goalAt, Cond.instanceMethod yX5_goalAt, Cond.selects RX5 yX5_goalAt yX5_goalAt]
def wsL_law0_r12 : List Cond := [Cond.code yX5_goalAt cX5_goalAt 3 (some .long), Cond.instanceMethod yX2_begin, Cond.selects RX2 yX2_begin yX2_begin, Cond.code yX2_begin cX2_begin 7 none, Cond.fieldLink RX2 25 "Flapline$Planner" "start" "J", Cond.fieldLink RX2 29 "Flapline$Planner" "goal" "J", Cond.fieldLink RX2 32 "Flapline$Planner" "power" "I", Cond.fieldLink RX2 35 "Flapline$Planner" "changed" "I", Cond.static yX5_setIn, Cond.code yX5_setIn cX5_setIn 3 (some .int), Cond.methodLink RX2 42 yX2_countDots, Cond.instanceMethod yX2_countDots, Cond.selects RX2 yX2_countDots yX2_countDots, Cond.code yX2_countDots cX2_countDots 4 none, Cond.methodLink RX2 45 yJ6_bitCount_0f7a4, Cond.static yJ6_bitCount_0f7a4, Cond.initialized RJ6, Cond.code yJ6_bitCount_0f7a4 cJ6_bitCount_0f7a4 1 (some .int), Cond.constant RJ6 265 (1431655765), Cond.constant RJ6 266 (858993459), Cond.constant RJ6 267 (252645135), Cond.methodLink RX5 314 yX5_says, Cond.instanceMethod yX5_says, Cond.selects RX5 yX5_says yX5_says]
def wsL_law0_r13 : List Cond := [Cond.code yX5_says cX5_says 4 (some .boolean), Cond.methodLink RX5 368 yX5_forbidPlacesOf, Cond.instanceMethod yX5_forbidPlacesOf, Cond.selects RX5 yX5_forbidPlacesOf yX5_forbidPlacesOf, Cond.code yX5_forbidPlacesOf cX5_forbidPlacesOf 3 none, Cond.instanceMethod yX2_forbid, Cond.selects RX2 yX2_forbid yX2_forbid, Cond.code yX2_forbid cX2_forbid 6 none, Cond.instanceMethod yX2_choose, Cond.selects RX2 yX2_choose yX2_choose, Cond.code yX2_choose cX2_choose 4 none, Cond.methodLink RX2 59 yX2_fewestFrom, Cond.instanceMethod yX2_fewestFrom, Cond.selects RX2 yX2_fewestFrom yX2_fewestFrom, Cond.code yX2_fewestFrom cX2_fewestFrom 6 (some .int), Cond.methodLink RX2 65 yX2_canBeOneStep, Cond.instanceMethod yX2_canBeOneStep, Cond.selects RX2 yX2_canBeOneStep yX2_canBeOneStep, Cond.code yX2_canBeOneStep cX2_canBeOneStep 3 (some .boolean), Cond.methodLink RX2 62 yX2_smallestFrom, Cond.instanceMethod yX2_smallestFrom, Cond.selects RX2 yX2_smallestFrom yX2_smallestFrom, Cond.code yX2_smallestFrom cX2_smallestFrom 5 (some .int), Cond.methodLink RX5 213 yX5_lineFact]
def wsL_law0_r14 : List Cond := [Cond.instanceMethod yX5_lineFact, Cond.selects RX5 yX5_lineFact yX5_lineFact, Cond.code yX5_lineFact cX5_lineFact 3 (some .int), Cond.methodLink RX5 311 yX5_leastHarm, Cond.instanceMethod yX5_leastHarm, Cond.selects RX5 yX5_leastHarm yX5_leastHarm, Cond.code yX5_leastHarm cX5_leastHarm 3 (some .int), Cond.instanceMethod yX2_flips, Cond.selects RX2 yX2_flips yX2_flips, Cond.code yX2_flips cX2_flips 1 (some .int), Cond.methodLink RX2 69 yJ13_bitCount_95d88, Cond.methodLink RL 75 yX5_step, Cond.instanceMethod yX5_step, Cond.selects RX5 yX5_step yX5_step, Cond.code yX5_step cX5_step 3 (some .int), Cond.instanceMethod yX2_setOf, Cond.selects RX2 yX2_setOf yX2_setOf, Cond.code yX2_setOf cX2_setOf 2 (some .int), Cond.methodLink RL 78 yX5_column, Cond.instanceMethod yX5_column, Cond.selects RX5 yX5_column yX5_column, Cond.code yX5_column cX5_column 3 (some .int), Cond.methodLink RX5 205 yX5_columnFact, Cond.instanceMethod yX5_columnFact]
def wsL_law0_r15 : List Cond := [Cond.selects RX5 yX5_columnFact yX5_columnFact, Cond.code yX5_columnFact cX5_columnFact 3 (some .int), Cond.methodLink RX5 291 yX5_setIn, Cond.methodLink RX5 297 yJ6_bitCount_0f7a4, Cond.methodLink RL 81 yX5_show, Cond.instanceMethod yX5_show, Cond.selects RX5 yX5_show yX5_show, Cond.code yX5_show cX5_show 2 (some .int), Cond.methodLink RX5 137 yX5_bringUp, Cond.instanceMethod yX5_bringUp, Cond.selects RX5 yX5_bringUp yX5_bringUp, Cond.code yX5_bringUp cX5_bringUp 2 (some .int), Cond.instanceMethod yX0_turnTo, Cond.selects RX0 yX0_turnTo yX0_turnTo, Cond.code yX0_turnTo cX0_turnTo 6 none, Cond.methodLink RX0 60 yJ6_bitCount_0f7a4, Cond.methodLink RL 84 yL_isRight, Cond.static yL_isRight, Cond.code yL_isRight cL_isRight 7 (some .boolean), Cond.methodLink RL 51 yL_isWell, Cond.static yL_isWell, Cond.code yL_isWell cL_isWell 6 (some .boolean), Cond.methodLink RL 88 yX5_dot, Cond.instanceMethod yX5_dot]
def wsL_law0_r16 : List Cond := [Cond.selects RX5 yX5_dot yX5_dot, Cond.code yX5_dot cX5_dot 4 (some .int), Cond.instanceMethod yX0_stuckFaceOf, Cond.selects RX0 yX0_stuckFaceOf yX0_stuckFaceOf, Cond.code yX0_stuckFaceOf cX0_stuckFaceOf 5 (some .int), Cond.methodLink RL 59 yX5_isSound, Cond.instanceMethod yX5_isSound, Cond.selects RX5 yX5_isSound yX5_isSound, Cond.code yX5_isSound cX5_isSound 2 (some .boolean), Cond.methodLink RX5 264 yX5_planIsTrue, Cond.instanceMethod yX5_planIsTrue, Cond.selects RX5 yX5_planIsTrue yX5_planIsTrue, Cond.code yX5_planIsTrue cX5_planIsTrue 4 (some .boolean), Cond.instanceMethod yX2_pictureBehind, Cond.selects RX2 yX2_pictureBehind yX2_pictureBehind, Cond.code yX2_pictureBehind cX2_pictureBehind 5 (some .long), Cond.constantLong RX2 74 (31), Cond.methodLink RX5 381 yX5_isWrong, Cond.instanceMethod yX5_isWrong, Cond.selects RX5 yX5_isWrong yX5_isWrong, Cond.code yX5_isWrong cX5_isWrong 5 (some .boolean), Cond.instanceMethod yX0_isTrue, Cond.selects RX0 yX0_isTrue yX0_isTrue, Cond.code yX0_isTrue cX0_isTrue 2 (some .boolean)]
def wsL_law0_r17 : List Cond := [Cond.instanceMethod yX3_isTrue, Cond.selects RX3 yX3_isTrue yX3_isTrue, Cond.code yX3_isTrue cX3_isTrue 1 (some .boolean), Cond.methodLink RL 55 yX5_digest, Cond.instanceMethod yX5_digest, Cond.selects RX5 yX5_digest yX5_digest, Cond.code yX5_digest cX5_digest 5 (some .long), Cond.constantLong RX5 272 (3769), Cond.constantLong RX5 274 (31), Cond.methodLink RX5 276 yX5_addLineTo, Cond.instanceMethod yX5_addLineTo, Cond.selects RX5 yX5_addLineTo yX5_addLineTo, Cond.code yX5_addLineTo cX5_addLineTo 7 (some .long), Cond.methodLink RX5 261 yX5_readOfGoal, Cond.instanceMethod yX5_readOfGoal, Cond.selects RX5 yX5_readOfGoal yX5_readOfGoal, Cond.code yX5_readOfGoal cX5_readOfGoal 3 (some .int), Cond.methodLink RX5 280 yX5_isSound]
def wsL_law0 : List Cond := (wsL_law0_r1 ++ (wsL_law0_r2 ++ (wsL_law0_r3 ++ (wsL_law0_r4 ++ (wsL_law0_r5 ++ (wsL_law0_r6 ++ (wsL_law0_r7 ++ (wsL_law0_r8 ++ (wsL_law0_r9 ++ (wsL_law0_r10 ++ (wsL_law0_r11 ++ (wsL_law0_r12 ++ (wsL_law0_r13 ++ (wsL_law0_r14 ++ (wsL_law0_r15 ++ (wsL_law0_r16 ++ wsL_law0_r17)))))))))))))))) ++ wsX50 ++ wsX00 ++ wsX10 ++ wsX20 ++ wsX40 ++ wsX30 ++ ([] : List Cond)
def wsL_law : List Cond := wsL_law0 ++ (vx_atS RX5 58 "java/lang/IllegalArgumentException" ["java/lang/RuntimeException", "java/lang/Exception"]).filter goodWord ++ (vx_atS RX5 85 "java/lang/IllegalStateException" ["java/lang/RuntimeException", "java/lang/Exception"]).filter goodWord ++ (vx_atS RX5 228 "java/lang/IndexOutOfBoundsException" ["java/lang/RuntimeException", "java/lang/Exception"]).filter goodWord
end
section
set_option maxRecDepth 20000 in
theorem wsL_law_ir1 : ∀ w ∈ wsL_law0_r1, w ∈ lw_tbl := fun w h => (goodIn_p wsL_law0_r1 [73, 76] (by decide +kernel) (by decide +kernel) w h).1
set_option maxRecDepth 20000 in
theorem wsL_law_ir2 : ∀ w ∈ wsL_law0_r2, w ∈ lw_tbl := fun w h => (goodIn_p wsL_law0_r2 [81, 113] (by decide +kernel) (by decide +kernel) w h).1
set_option maxRecDepth 20000 in
theorem wsL_law_ir3 : ∀ w ∈ wsL_law0_r3, w ∈ lw_tbl := fun w h => (goodIn_p wsL_law0_r3 [146, 179, 201, 615, 611] (by decide +kernel) (by decide +kernel) w h).1
set_option maxRecDepth 20000 in
theorem wsL_law_ir4 : ∀ w ∈ wsL_law0_r4, w ∈ lw_tbl := fun w h => (goodIn_p wsL_law0_r4 [250, 322, 331, 334] (by decide +kernel) (by decide +kernel) w h).1
set_option maxRecDepth 20000 in
theorem wsL_law_ir5 : ∀ w ∈ wsL_law0_r5, w ∈ lw_tbl := fun w h => (goodIn_p wsL_law0_r5 [356, 359, 624, 628, 633, 418, 639] (by decide +kernel) (by decide +kernel) w h).1
set_option maxRecDepth 20000 in
theorem wsL_law_ir6 : ∀ w ∈ wsL_law0_r6, w ∈ lw_tbl := fun w h => (goodIn_p wsL_law0_r6 [643, 402, 647, 429, 434, 438] (by decide +kernel) (by decide +kernel) w h).1
set_option maxRecDepth 20000 in
theorem wsL_law_ir7 : ∀ w ∈ wsL_law0_r7, w ∈ lw_tbl := fun w h => (goodIn_p wsL_law0_r7 [442, 446, 450, 453, 459, 463] (by decide +kernel) (by decide +kernel) w h).1
set_option maxRecDepth 20000 in
theorem wsL_law_ir8 : ∀ w ∈ wsL_law0_r8, w ∈ lw_tbl := fun w h => (goodIn_p wsL_law0_r8 [467, 472, 476, 326, 363] (by decide +kernel) (by decide +kernel) w h).1
set_option maxRecDepth 20000 in
theorem wsL_law_ir9 : ∀ w ∈ wsL_law0_r9, w ∈ lw_tbl := fun w h => (goodIn_p wsL_law0_r9 [367, 371, 390, 396, 399, 406] (by decide +kernel) (by decide +kernel) w h).1
set_option maxRecDepth 20000 in
theorem wsL_law_ir10 : ∀ w ∈ wsL_law0_r10, w ∈ lw_tbl := fun w h => (goodIn_p wsL_law0_r10 [411, 415, 422, 650, 667, 654] (by decide +kernel) (by decide +kernel) w h).1
set_option maxRecDepth 20000 in
theorem wsL_law_ir11 : ∀ w ∈ wsL_law0_r11, w ∈ lw_tbl := fun w h => (goodIn_p wsL_law0_r11 [658, 662, 488, 492, 496, 500] (by decide +kernel) (by decide +kernel) w h).1
set_option maxRecDepth 20000 in
theorem wsL_law_ir12 : ∀ w ∈ wsL_law0_r12, w ∈ lw_tbl := fun w h => (goodIn_p wsL_law0_r12 [504, 509, 512, 516, 519] (by decide +kernel) (by decide +kernel) w h).1
set_option maxRecDepth 20000 in
theorem wsL_law_ir13 : ∀ w ∈ wsL_law0_r13, w ∈ lw_tbl := fun w h => (goodIn_p wsL_law0_r13 [527, 531, 535, 540, 544, 548, 552] (by decide +kernel) (by decide +kernel) w h).1
set_option maxRecDepth 20000 in
theorem wsL_law_ir14 : ∀ w ∈ wsL_law0_r14, w ∈ lw_tbl := fun w h => (goodIn_p wsL_law0_r14 [594, 598, 602, 671, 556, 676] (by decide +kernel) (by decide +kernel) w h).1
set_option maxRecDepth 20000 in
theorem wsL_law_ir15 : ∀ w ∈ wsL_law0_r15, w ∈ lw_tbl := fun w h => (goodIn_p wsL_law0_r15 [584, 681, 685, 689, 694, 698] (by decide +kernel) (by decide +kernel) w h).1
set_option maxRecDepth 20000 in
theorem wsL_law_ir16 : ∀ w ∈ wsL_law0_r16, w ∈ lw_tbl := fun w h => (goodIn_p wsL_law0_r16 [702, 706, 480, 484, 560, 566, 570] (by decide +kernel) (by decide +kernel) w h).1
set_option maxRecDepth 20000 in
theorem wsL_law_ir17 : ∀ w ∈ wsL_law0_r17, w ∈ lw_tbl := fun w h => (goodIn_p wsL_law0_r17 [574, 578, 590, 607] (by decide +kernel) (by decide +kernel) w h).1
theorem wsL_in_X50 : ∀ w ∈ wsX50, w ∈ lw_tbl := by decide +kernel
theorem wsL_in_X00 : ∀ w ∈ wsX00, w ∈ lw_tbl := by decide +kernel
theorem wsL_in_X10 : ∀ w ∈ wsX10, w ∈ lw_tbl := by decide +kernel
theorem wsL_in_X20 : ∀ w ∈ wsX20, w ∈ lw_tbl := by decide +kernel
theorem wsL_in_X40 : ∀ w ∈ wsX40, w ∈ lw_tbl := by decide +kernel
theorem wsL_in_X30 : ∀ w ∈ wsX30, w ∈ lw_tbl := by decide +kernel
theorem wsL_law_in0 : ∀ w ∈ wsL_law0, w ∈ lw_tbl := List.forall_mem_append.mpr ⟨(List.forall_mem_append.mpr ⟨(List.forall_mem_append.mpr ⟨(List.forall_mem_append.mpr ⟨(List.forall_mem_append.mpr ⟨(List.forall_mem_append.mpr ⟨(List.forall_mem_append.mpr ⟨(List.forall_mem_append.mpr ⟨wsL_law_ir1, (List.forall_mem_append.mpr ⟨wsL_law_ir2, (List.forall_mem_append.mpr ⟨wsL_law_ir3, (List.forall_mem_append.mpr ⟨wsL_law_ir4, (List.forall_mem_append.mpr ⟨wsL_law_ir5, (List.forall_mem_append.mpr ⟨wsL_law_ir6, (List.forall_mem_append.mpr ⟨wsL_law_ir7, (List.forall_mem_append.mpr ⟨wsL_law_ir8, (List.forall_mem_append.mpr ⟨wsL_law_ir9, (List.forall_mem_append.mpr ⟨wsL_law_ir10, (List.forall_mem_append.mpr ⟨wsL_law_ir11, (List.forall_mem_append.mpr ⟨wsL_law_ir12, (List.forall_mem_append.mpr ⟨wsL_law_ir13, (List.forall_mem_append.mpr ⟨wsL_law_ir14, (List.forall_mem_append.mpr ⟨wsL_law_ir15, (List.forall_mem_append.mpr ⟨wsL_law_ir16, wsL_law_ir17⟩)⟩)⟩)⟩)⟩)⟩)⟩)⟩)⟩)⟩)⟩)⟩)⟩)⟩)⟩)⟩), wsL_in_X50⟩), wsL_in_X00⟩), wsL_in_X10⟩), wsL_in_X20⟩), wsL_in_X40⟩), wsL_in_X30⟩), fun _ h => absurd h List.not_mem_nil⟩
theorem wsL_law_x0 : ∀ w ∈ (vx_atS RX5 58 "java/lang/IllegalArgumentException" ["java/lang/RuntimeException", "java/lang/Exception"]).filter goodWord, w ∈ lw_tbl := by decide +kernel
theorem wsL_law_x1 : ∀ w ∈ (vx_atS RX5 85 "java/lang/IllegalStateException" ["java/lang/RuntimeException", "java/lang/Exception"]).filter goodWord, w ∈ lw_tbl := by decide +kernel
theorem wsL_law_x2 : ∀ w ∈ (vx_atS RX5 228 "java/lang/IndexOutOfBoundsException" ["java/lang/RuntimeException", "java/lang/Exception"]).filter goodWord, w ∈ lw_tbl := by decide +kernel
theorem wsL_law_in : ∀ w ∈ wsL_law, w ∈ lw_tbl := fun w h => (List.mem_append.mp h).elim (fun h => (List.mem_append.mp h).elim (fun h => (List.mem_append.mp h).elim (fun h => wsL_law_in0 w h) (fun h => wsL_law_x0 w h)) (fun h => wsL_law_x1 w h)) (fun h => wsL_law_x2 w h)
theorem inlX0 : ∀ w ∈ wsX00, w ∈ wsL_law := fun _ h => List.mem_append_left _ (List.mem_append_left _ (List.mem_append_left _ (List.mem_append_left _ (List.mem_append_left _ (List.mem_append_left _ (List.mem_append_left _ (List.mem_append_left _ (List.mem_append_right _ h))))))))
theorem inX0 : ∀ w ∈ wsX00, w ∈ lw_tbl := fun w h => wsL_law_in w (inlX0 w h)
theorem inlX1 : ∀ w ∈ wsX10, w ∈ wsL_law := fun _ h => List.mem_append_left _ (List.mem_append_left _ (List.mem_append_left _ (List.mem_append_left _ (List.mem_append_left _ (List.mem_append_left _ (List.mem_append_left _ (List.mem_append_right _ h)))))))
theorem inX1 : ∀ w ∈ wsX10, w ∈ lw_tbl := fun w h => wsL_law_in w (inlX1 w h)
theorem inlX2 : ∀ w ∈ wsX20, w ∈ wsL_law := fun _ h => List.mem_append_left _ (List.mem_append_left _ (List.mem_append_left _ (List.mem_append_left _ (List.mem_append_left _ (List.mem_append_left _ (List.mem_append_right _ h))))))
theorem inX2 : ∀ w ∈ wsX20, w ∈ lw_tbl := fun w h => wsL_law_in w (inlX2 w h)
theorem inlX3 : ∀ w ∈ wsX30, w ∈ wsL_law := fun _ h => List.mem_append_left _ (List.mem_append_left _ (List.mem_append_left _ (List.mem_append_left _ (List.mem_append_right _ h))))
theorem inX3 : ∀ w ∈ wsX30, w ∈ lw_tbl := fun w h => wsL_law_in w (inlX3 w h)
theorem inlX4 : ∀ w ∈ wsX40, w ∈ wsL_law := fun _ h => List.mem_append_left _ (List.mem_append_left _ (List.mem_append_left _ (List.mem_append_left _ (List.mem_append_left _ (List.mem_append_right _ h)))))
theorem inX4 : ∀ w ∈ wsX40, w ∈ lw_tbl := fun w h => wsL_law_in w (inlX4 w h)
theorem inlX5 : ∀ w ∈ wsX50, w ∈ wsL_law := fun _ h => List.mem_append_left _ (List.mem_append_left _ (List.mem_append_left _ (List.mem_append_left _ (List.mem_append_left _ (List.mem_append_left _ (List.mem_append_left _ (List.mem_append_left _ (List.mem_append_left _ (List.mem_append_right _ h)))))))))
theorem inX5 : ∀ w ∈ wsX50, w ∈ lw_tbl := fun w h => wsL_law_in w (inlX5 w h)
theorem inX6 : ∀ w ∈ wsX60, w ∈ lw_tbl := by decide +kernel
theorem inJx145de : ∀ w ∈ wsJx145de0, w ∈ lw_tbl := by decide +kernel
theorem inJ6 : ∀ w ∈ wsJ60, w ∈ lw_tbl := by decide +kernel
theorem inJ13 : ∀ w ∈ wsJ130, w ∈ lw_tbl := by decide +kernel
theorem inJ9 : ∀ w ∈ wsJ90, w ∈ lw_tbl := by decide +kernel
theorem inJ0 : ∀ w ∈ wsJ00, w ∈ lw_tbl := by decide +kernel
end
section
theorem dX0_init_0 : decode cX0_init 0 = .ok (.aload_n 0, 1) := by decide +kernel
theorem dX0_init_1 : decode cX0_init 1 = .ok (.invokespecial 3, 3) := by decide +kernel
theorem dX0_init_4 : decode cX0_init 4 = .ok (.aload_n 0, 1) := by decide +kernel
theorem dX0_init_5 : decode cX0_init 5 = .ok (.bipush 40, 2) := by decide +kernel
theorem dX0_init_7 : decode cX0_init 7 = .ok (.newarray .int, 2) := by decide +kernel
theorem dX0_init_9 : decode cX0_init 9 = .ok (.putfield 9, 3) := by decide +kernel
theorem dX0_init_12 : decode cX0_init 12 = .ok (.aload_n 0, 1) := by decide +kernel
theorem dX0_init_13 : decode cX0_init 13 = .ok (.bipush 8, 2) := by decide +kernel
theorem dX0_init_15 : decode cX0_init 15 = .ok (.newarray .int, 2) := by decide +kernel
theorem dX0_init_17 : decode cX0_init 17 = .ok (.putfield 15, 3) := by decide +kernel
theorem dX0_init_20 : decode cX0_init 20 = .ok (.aload_n 0, 1) := by decide +kernel
theorem dX0_init_21 : decode cX0_init 21 = .ok (.bipush 8, 2) := by decide +kernel
theorem dX0_init_23 : decode cX0_init 23 = .ok (.putfield 18, 3) := by decide +kernel
theorem dX0_init_26 : decode cX0_init 26 = .ok (.return_, 1) := by decide +kernel
theorem dX0_begin_0 : decode cX0_begin 0 = .ok (.aload_n 0, 1) := by decide +kernel
theorem dX0_begin_1 : decode cX0_begin 1 = .ok (.iload_n 1, 1) := by decide +kernel
theorem dX0_begin_2 : decode cX0_begin 2 = .ok (.putfield 18, 3) := by decide +kernel
theorem dX0_begin_5 : decode cX0_begin 5 = .ok (.aload_n 0, 1) := by decide +kernel
theorem dX0_begin_6 : decode cX0_begin 6 = .ok (.lconst 0, 1) := by decide +kernel
theorem dX0_begin_7 : decode cX0_begin 7 = .ok (.putfield 22, 3) := by decide +kernel
theorem dX0_begin_10 : decode cX0_begin 10 = .ok (.aload_n 0, 1) := by decide +kernel
theorem dX0_begin_11 : decode cX0_begin 11 = .ok (.lconst 0, 1) := by decide +kernel
theorem dX0_begin_12 : decode cX0_begin 12 = .ok (.putfield 26, 3) := by decide +kernel
theorem dX0_begin_15 : decode cX0_begin 15 = .ok (.aload_n 0, 1) := by decide +kernel
theorem dX0_begin_16 : decode cX0_begin 16 = .ok (.lconst 0, 1) := by decide +kernel
theorem dX0_begin_17 : decode cX0_begin 17 = .ok (.putfield 29, 3) := by decide +kernel
theorem dX0_begin_20 : decode cX0_begin 20 = .ok (.iconst 0, 1) := by decide +kernel
theorem dX0_begin_21 : decode cX0_begin 21 = .ok (.istore_n 2, 1) := by decide +kernel
theorem dX0_begin_22 : decode cX0_begin 22 = .ok (.iload_n 2, 1) := by decide +kernel
theorem dX0_begin_23 : decode cX0_begin 23 = .ok (.aload_n 0, 1) := by decide +kernel
theorem dX0_begin_24 : decode cX0_begin 24 = .ok (.getfield 9, 3) := by decide +kernel
theorem dX0_begin_27 : decode cX0_begin 27 = .ok (.arraylength, 1) := by decide +kernel
theorem dX0_begin_28 : decode cX0_begin 28 = .ok (.if_icmp .ge 16, 3) := by decide +kernel
theorem dX0_begin_31 : decode cX0_begin 31 = .ok (.aload_n 0, 1) := by decide +kernel
theorem dX0_begin_32 : decode cX0_begin 32 = .ok (.getfield 9, 3) := by decide +kernel
theorem dX0_begin_35 : decode cX0_begin 35 = .ok (.iload_n 2, 1) := by decide +kernel
theorem dX0_begin_36 : decode cX0_begin 36 = .ok (.iconst 0, 1) := by decide +kernel
theorem dX0_begin_37 : decode cX0_begin 37 = .ok (.iastore, 1) := by decide +kernel
theorem dX0_begin_38 : decode cX0_begin 38 = .ok (.iinc 2 1, 3) := by decide +kernel
theorem dX0_begin_41 : decode cX0_begin 41 = .ok (.goto (-19), 3) := by decide +kernel
theorem dX0_begin_44 : decode cX0_begin 44 = .ok (.iconst 0, 1) := by decide +kernel
theorem dX0_begin_45 : decode cX0_begin 45 = .ok (.istore_n 2, 1) := by decide +kernel
theorem dX0_begin_46 : decode cX0_begin 46 = .ok (.iload_n 2, 1) := by decide +kernel
theorem dX0_begin_47 : decode cX0_begin 47 = .ok (.aload_n 0, 1) := by decide +kernel
theorem dX0_begin_48 : decode cX0_begin 48 = .ok (.getfield 15, 3) := by decide +kernel
theorem dX0_begin_51 : decode cX0_begin 51 = .ok (.arraylength, 1) := by decide +kernel
theorem dX0_begin_52 : decode cX0_begin 52 = .ok (.if_icmp .ge 16, 3) := by decide +kernel
theorem dX0_begin_55 : decode cX0_begin 55 = .ok (.aload_n 0, 1) := by decide +kernel
theorem dX0_begin_56 : decode cX0_begin 56 = .ok (.getfield 15, 3) := by decide +kernel
theorem dX0_begin_59 : decode cX0_begin 59 = .ok (.iload_n 2, 1) := by decide +kernel
theorem dX0_begin_60 : decode cX0_begin 60 = .ok (.iconst 0, 1) := by decide +kernel
theorem dX0_begin_61 : decode cX0_begin 61 = .ok (.iastore, 1) := by decide +kernel
theorem dX0_begin_62 : decode cX0_begin 62 = .ok (.iinc 2 1, 3) := by decide +kernel
theorem dX0_begin_65 : decode cX0_begin 65 = .ok (.goto (-19), 3) := by decide +kernel
theorem dX0_begin_68 : decode cX0_begin 68 = .ok (.return_, 1) := by decide +kernel
set_option maxRecDepth 20000 in
theorem ggX0_faceOf_X5_dotIn : GoodIn wsX0_faceOf wsX5_dotIn := goodIn_r _ [4, 5, 6, 3, 7] (by decide +kernel) (by decide +kernel)
set_option maxRecDepth 20000 in
theorem gX0_faceOf_X5_dotIn_n32 : GoodIn wsX0_faceOf (wsX5_dotIn) := ggX0_faceOf_X5_dotIn
theorem dX0_faceOf_0 : decode cX0_faceOf 0 = .ok (.aload_n 0, 1) := by decide +kernel
theorem dX0_faceOf_1 : decode cX0_faceOf 1 = .ok (.getfield 22, 3) := by decide +kernel
theorem dX0_faceOf_4 : decode cX0_faceOf 4 = .ok (.iload_n 1, 1) := by decide +kernel
theorem dX0_faceOf_5 : decode cX0_faceOf 5 = .ok (.iload_n 2, 1) := by decide +kernel
theorem dX0_faceOf_6 : decode cX0_faceOf 6 = .ok (.invokestatic 32, 3) := by decide +kernel
theorem dX0_faceOf_9 : decode cX0_faceOf 9 = .ok (.land, 1) := by decide +kernel
theorem dX0_faceOf_10 : decode cX0_faceOf 10 = .ok (.lconst 0, 1) := by decide +kernel
theorem dX0_faceOf_11 : decode cX0_faceOf 11 = .ok (.lcmp, 1) := by decide +kernel
theorem dX0_faceOf_12 : decode cX0_faceOf 12 = .ok (.ifCond .ne 7, 3) := by decide +kernel
theorem dX0_faceOf_15 : decode cX0_faceOf 15 = .ok (.iconst 0, 1) := by decide +kernel
theorem dX0_faceOf_16 : decode cX0_faceOf 16 = .ok (.goto 4, 3) := by decide +kernel
theorem dX0_faceOf_19 : decode cX0_faceOf 19 = .ok (.iconst 1, 1) := by decide +kernel
theorem dX0_faceOf_20 : decode cX0_faceOf 20 = .ok (.ireturn, 1) := by decide +kernel
set_option maxRecDepth 20000 in
theorem ggX0_stuckFaceOf_X5_dotIn : GoodIn wsX0_stuckFaceOf wsX5_dotIn := goodIn_r _ [5, 6, 7, 4, 8] (by decide +kernel) (by decide +kernel)
set_option maxRecDepth 20000 in
theorem gX0_stuckFaceOf_X5_dotIn_n32 : GoodIn wsX0_stuckFaceOf (wsX5_dotIn) := ggX0_stuckFaceOf_X5_dotIn
theorem dX0_stuckFaceOf_0 : decode cX0_stuckFaceOf 0 = .ok (.iload_n 1, 1) := by decide +kernel
theorem dX0_stuckFaceOf_1 : decode cX0_stuckFaceOf 1 = .ok (.iload_n 2, 1) := by decide +kernel
theorem dX0_stuckFaceOf_2 : decode cX0_stuckFaceOf 2 = .ok (.invokestatic 32, 3) := by decide +kernel
theorem dX0_stuckFaceOf_5 : decode cX0_stuckFaceOf 5 = .ok (.lstore_n 3, 1) := by decide +kernel
theorem dX0_stuckFaceOf_6 : decode cX0_stuckFaceOf 6 = .ok (.aload_n 0, 1) := by decide +kernel
theorem dX0_stuckFaceOf_7 : decode cX0_stuckFaceOf 7 = .ok (.getfield 26, 3) := by decide +kernel
theorem dX0_stuckFaceOf_10 : decode cX0_stuckFaceOf 10 = .ok (.lload_n 3, 1) := by decide +kernel
theorem dX0_stuckFaceOf_11 : decode cX0_stuckFaceOf 11 = .ok (.land, 1) := by decide +kernel
theorem dX0_stuckFaceOf_12 : decode cX0_stuckFaceOf 12 = .ok (.lconst 0, 1) := by decide +kernel
theorem dX0_stuckFaceOf_13 : decode cX0_stuckFaceOf 13 = .ok (.lcmp, 1) := by decide +kernel
theorem dX0_stuckFaceOf_14 : decode cX0_stuckFaceOf 14 = .ok (.ifCond .ne 5, 3) := by decide +kernel
theorem dX0_stuckFaceOf_17 : decode cX0_stuckFaceOf 17 = .ok (.iconst (-1), 1) := by decide +kernel
theorem dX0_stuckFaceOf_18 : decode cX0_stuckFaceOf 18 = .ok (.ireturn, 1) := by decide +kernel
theorem dX0_stuckFaceOf_19 : decode cX0_stuckFaceOf 19 = .ok (.aload_n 0, 1) := by decide +kernel
theorem dX0_stuckFaceOf_20 : decode cX0_stuckFaceOf 20 = .ok (.getfield 29, 3) := by decide +kernel
theorem dX0_stuckFaceOf_23 : decode cX0_stuckFaceOf 23 = .ok (.lload_n 3, 1) := by decide +kernel
theorem dX0_stuckFaceOf_24 : decode cX0_stuckFaceOf 24 = .ok (.land, 1) := by decide +kernel
theorem dX0_stuckFaceOf_25 : decode cX0_stuckFaceOf 25 = .ok (.lconst 0, 1) := by decide +kernel
theorem dX0_stuckFaceOf_26 : decode cX0_stuckFaceOf 26 = .ok (.lcmp, 1) := by decide +kernel
theorem dX0_stuckFaceOf_27 : decode cX0_stuckFaceOf 27 = .ok (.ifCond .ne 7, 3) := by decide +kernel
theorem dX0_stuckFaceOf_30 : decode cX0_stuckFaceOf 30 = .ok (.iconst 0, 1) := by decide +kernel
theorem dX0_stuckFaceOf_31 : decode cX0_stuckFaceOf 31 = .ok (.goto 4, 3) := by decide +kernel
theorem dX0_stuckFaceOf_34 : decode cX0_stuckFaceOf 34 = .ok (.iconst 1, 1) := by decide +kernel
theorem dX0_stuckFaceOf_35 : decode cX0_stuckFaceOf 35 = .ok (.ireturn, 1) := by decide +kernel
set_option maxRecDepth 20000 in
theorem ggX0_fix_X5_dotIn : GoodIn wsX0_fix wsX5_dotIn := goodIn_r _ [7, 8, 9, 6, 10] (by decide +kernel) (by decide +kernel)
set_option maxRecDepth 20000 in
theorem gX0_fix_X5_dotIn_n32 : GoodIn wsX0_fix (wsX5_dotIn) := ggX0_fix_X5_dotIn
set_option maxRecDepth 20000 in
theorem ggX0_fix_X0_withStuck : GoodIn wsX0_fix wsX0_withStuck := goodIn_r _ [15, 1, 2, 3, 16, 17, 18, 19, 20, 21] (by decide +kernel) (by decide +kernel)
set_option maxRecDepth 20000 in
theorem gX0_fix_X0_withStuck : GoodIn wsX0_fix (wsV RX0 38 RX0 yX0_withStuck wsX0_withStuck) := goodIn_app (goodIn_of _ (by decide +kernel)) ggX0_fix_X0_withStuck
theorem dX0_fix_0 : decode cX0_fix 0 = .ok (.iload_n 1, 1) := by decide +kernel
theorem dX0_fix_1 : decode cX0_fix 1 = .ok (.iload_n 2, 1) := by decide +kernel
theorem dX0_fix_2 : decode cX0_fix 2 = .ok (.invokestatic 32, 3) := by decide +kernel
theorem dX0_fix_5 : decode cX0_fix 5 = .ok (.lstore 4, 2) := by decide +kernel
theorem dX0_fix_7 : decode cX0_fix 7 = .ok (.aload_n 0, 1) := by decide +kernel
theorem dX0_fix_8 : decode cX0_fix 8 = .ok (.iload_n 3, 1) := by decide +kernel
theorem dX0_fix_9 : decode cX0_fix 9 = .ok (.iconst (-1), 1) := by decide +kernel
theorem dX0_fix_10 : decode cX0_fix 10 = .ok (.if_icmp .ne 17, 3) := by decide +kernel
theorem dX0_fix_13 : decode cX0_fix 13 = .ok (.aload_n 0, 1) := by decide +kernel
theorem dX0_fix_14 : decode cX0_fix 14 = .ok (.getfield 26, 3) := by decide +kernel
theorem dX0_fix_17 : decode cX0_fix 17 = .ok (.lload 4, 2) := by decide +kernel
theorem dX0_fix_19 : decode cX0_fix 19 = .ok (.ldc2_w 36, 3) := by decide +kernel
theorem dX0_fix_22 : decode cX0_fix 22 = .ok (.lxor, 1) := by decide +kernel
theorem dX0_fix_23 : decode cX0_fix 23 = .ok (.land, 1) := by decide +kernel
theorem dX0_fix_24 : decode cX0_fix 24 = .ok (.goto 10, 3) := by decide +kernel
theorem dX0_fix_27 : decode cX0_fix 27 = .ok (.aload_n 0, 1) := by decide +kernel
theorem dX0_fix_28 : decode cX0_fix 28 = .ok (.getfield 26, 3) := by decide +kernel
theorem dX0_fix_31 : decode cX0_fix 31 = .ok (.lload 4, 2) := by decide +kernel
theorem dX0_fix_33 : decode cX0_fix 33 = .ok (.lor, 1) := by decide +kernel
theorem dX0_fix_34 : decode cX0_fix 34 = .ok (.putfield 26, 3) := by decide +kernel
theorem dX0_fix_37 : decode cX0_fix 37 = .ok (.aload_n 0, 1) := by decide +kernel
theorem dX0_fix_38 : decode cX0_fix 38 = .ok (.iload_n 3, 1) := by decide +kernel
theorem dX0_fix_39 : decode cX0_fix 39 = .ok (.iconst 1, 1) := by decide +kernel
theorem dX0_fix_40 : decode cX0_fix 40 = .ok (.if_icmp .ne 13, 3) := by decide +kernel
theorem dX0_fix_43 : decode cX0_fix 43 = .ok (.aload_n 0, 1) := by decide +kernel
theorem dX0_fix_44 : decode cX0_fix 44 = .ok (.getfield 29, 3) := by decide +kernel
theorem dX0_fix_47 : decode cX0_fix 47 = .ok (.lload 4, 2) := by decide +kernel
theorem dX0_fix_49 : decode cX0_fix 49 = .ok (.lor, 1) := by decide +kernel
theorem dX0_fix_50 : decode cX0_fix 50 = .ok (.goto 14, 3) := by decide +kernel
theorem dX0_fix_53 : decode cX0_fix 53 = .ok (.aload_n 0, 1) := by decide +kernel
theorem dX0_fix_54 : decode cX0_fix 54 = .ok (.getfield 29, 3) := by decide +kernel
theorem dX0_fix_57 : decode cX0_fix 57 = .ok (.lload 4, 2) := by decide +kernel
theorem dX0_fix_59 : decode cX0_fix 59 = .ok (.ldc2_w 36, 3) := by decide +kernel
theorem dX0_fix_62 : decode cX0_fix 62 = .ok (.lxor, 1) := by decide +kernel
theorem dX0_fix_63 : decode cX0_fix 63 = .ok (.land, 1) := by decide +kernel
theorem dX0_fix_64 : decode cX0_fix 64 = .ok (.putfield 29, 3) := by decide +kernel
theorem dX0_fix_67 : decode cX0_fix 67 = .ok (.aload_n 0, 1) := by decide +kernel
theorem dX0_fix_68 : decode cX0_fix 68 = .ok (.aload_n 0, 1) := by decide +kernel
theorem dX0_fix_69 : decode cX0_fix 69 = .ok (.aload_n 0, 1) := by decide +kernel
theorem dX0_fix_70 : decode cX0_fix 70 = .ok (.getfield 22, 3) := by decide +kernel
theorem dX0_fix_73 : decode cX0_fix 73 = .ok (.invokevirtual 38, 3) := by decide +kernel
theorem dX0_fix_76 : decode cX0_fix 76 = .ok (.putfield 22, 3) := by decide +kernel
theorem dX0_fix_79 : decode cX0_fix 79 = .ok (.return_, 1) := by decide +kernel
set_option maxRecDepth 20000 in
theorem ggX0_renewColumn_X5_bitOf : GoodIn wsX0_renewColumn wsX5_bitOf := goodIn_r _ [9] (by decide +kernel) (by decide +kernel)
set_option maxRecDepth 20000 in
theorem gX0_renewColumn_X5_bitOf_n44 : GoodIn wsX0_renewColumn (wsX5_bitOf) := ggX0_renewColumn_X5_bitOf
set_option maxRecDepth 20000 in
theorem ggX0_renewColumn_X5_put : GoodIn wsX0_renewColumn wsX5_put := goodIn_r _ [11] (by decide +kernel) (by decide +kernel)
set_option maxRecDepth 20000 in
theorem gX0_renewColumn_X5_put_n48 : GoodIn wsX0_renewColumn (wsX5_put) := ggX0_renewColumn_X5_put
theorem dX0_renewColumn_0 : decode cX0_renewColumn 0 = .ok (.ldc2_w 42, 3) := by decide +kernel
theorem dX0_renewColumn_3 : decode cX0_renewColumn 3 = .ok (.iload_n 1, 1) := by decide +kernel
theorem dX0_renewColumn_4 : decode cX0_renewColumn 4 = .ok (.iconst 0, 1) := by decide +kernel
theorem dX0_renewColumn_5 : decode cX0_renewColumn 5 = .ok (.invokestatic 44, 3) := by decide +kernel
theorem dX0_renewColumn_8 : decode cX0_renewColumn 8 = .ok (.lshl, 1) := by decide +kernel
theorem dX0_renewColumn_9 : decode cX0_renewColumn 9 = .ok (.ldc2_w 36, 3) := by decide +kernel
theorem dX0_renewColumn_12 : decode cX0_renewColumn 12 = .ok (.lxor, 1) := by decide +kernel
theorem dX0_renewColumn_13 : decode cX0_renewColumn 13 = .ok (.lstore_n 2, 1) := by decide +kernel
theorem dX0_renewColumn_14 : decode cX0_renewColumn 14 = .ok (.aload_n 0, 1) := by decide +kernel
theorem dX0_renewColumn_15 : decode cX0_renewColumn 15 = .ok (.dup, 1) := by decide +kernel
theorem dX0_renewColumn_16 : decode cX0_renewColumn 16 = .ok (.getfield 22, 3) := by decide +kernel
theorem dX0_renewColumn_19 : decode cX0_renewColumn 19 = .ok (.lload_n 2, 1) := by decide +kernel
theorem dX0_renewColumn_20 : decode cX0_renewColumn 20 = .ok (.land, 1) := by decide +kernel
theorem dX0_renewColumn_21 : decode cX0_renewColumn 21 = .ok (.putfield 22, 3) := by decide +kernel
theorem dX0_renewColumn_24 : decode cX0_renewColumn 24 = .ok (.aload_n 0, 1) := by decide +kernel
theorem dX0_renewColumn_25 : decode cX0_renewColumn 25 = .ok (.dup, 1) := by decide +kernel
theorem dX0_renewColumn_26 : decode cX0_renewColumn 26 = .ok (.getfield 26, 3) := by decide +kernel
theorem dX0_renewColumn_29 : decode cX0_renewColumn 29 = .ok (.lload_n 2, 1) := by decide +kernel
theorem dX0_renewColumn_30 : decode cX0_renewColumn 30 = .ok (.land, 1) := by decide +kernel
theorem dX0_renewColumn_31 : decode cX0_renewColumn 31 = .ok (.putfield 26, 3) := by decide +kernel
theorem dX0_renewColumn_34 : decode cX0_renewColumn 34 = .ok (.aload_n 0, 1) := by decide +kernel
theorem dX0_renewColumn_35 : decode cX0_renewColumn 35 = .ok (.dup, 1) := by decide +kernel
theorem dX0_renewColumn_36 : decode cX0_renewColumn 36 = .ok (.getfield 29, 3) := by decide +kernel
theorem dX0_renewColumn_39 : decode cX0_renewColumn 39 = .ok (.lload_n 2, 1) := by decide +kernel
theorem dX0_renewColumn_40 : decode cX0_renewColumn 40 = .ok (.land, 1) := by decide +kernel
theorem dX0_renewColumn_41 : decode cX0_renewColumn 41 = .ok (.putfield 29, 3) := by decide +kernel
theorem dX0_renewColumn_44 : decode cX0_renewColumn 44 = .ok (.aload_n 0, 1) := by decide +kernel
theorem dX0_renewColumn_45 : decode cX0_renewColumn 45 = .ok (.getfield 15, 3) := by decide +kernel
theorem dX0_renewColumn_48 : decode cX0_renewColumn 48 = .ok (.iload_n 1, 1) := by decide +kernel
theorem dX0_renewColumn_49 : decode cX0_renewColumn 49 = .ok (.iconst 0, 1) := by decide +kernel
theorem dX0_renewColumn_50 : decode cX0_renewColumn 50 = .ok (.invokestatic 48, 3) := by decide +kernel
theorem dX0_renewColumn_53 : decode cX0_renewColumn 53 = .ok (.return_, 1) := by decide +kernel
theorem dX0_withStuck_0 : decode cX0_withStuck 0 = .ok (.lload_n 1, 1) := by decide +kernel
theorem dX0_withStuck_1 : decode cX0_withStuck 1 = .ok (.aload_n 0, 1) := by decide +kernel
theorem dX0_withStuck_2 : decode cX0_withStuck 2 = .ok (.getfield 26, 3) := by decide +kernel
theorem dX0_withStuck_5 : decode cX0_withStuck 5 = .ok (.ldc2_w 36, 3) := by decide +kernel
theorem dX0_withStuck_8 : decode cX0_withStuck 8 = .ok (.lxor, 1) := by decide +kernel
theorem dX0_withStuck_9 : decode cX0_withStuck 9 = .ok (.land, 1) := by decide +kernel
theorem dX0_withStuck_10 : decode cX0_withStuck 10 = .ok (.aload_n 0, 1) := by decide +kernel
theorem dX0_withStuck_11 : decode cX0_withStuck 11 = .ok (.getfield 29, 3) := by decide +kernel
theorem dX0_withStuck_14 : decode cX0_withStuck 14 = .ok (.lor, 1) := by decide +kernel
theorem dX0_withStuck_15 : decode cX0_withStuck 15 = .ok (.lreturn, 1) := by decide +kernel
set_option maxRecDepth 20000 in
theorem ggX0_turnTo_X5_at : GoodIn wsX0_turnTo wsX5_at := goodIn_r _ [7] (by decide +kernel) (by decide +kernel)
set_option maxRecDepth 20000 in
theorem gX0_turnTo_X5_at_n52 : GoodIn wsX0_turnTo (wsX5_at) := ggX0_turnTo_X5_at
set_option maxRecDepth 20000 in
theorem ggX0_turnTo_X5_setIn : GoodIn wsX0_turnTo wsX5_setIn := goodIn_r _ [9] (by decide +kernel) (by decide +kernel)
set_option maxRecDepth 20000 in
theorem gX0_turnTo_X5_setIn_n56 : GoodIn wsX0_turnTo (wsX5_setIn) := ggX0_turnTo_X5_setIn
set_option maxRecDepth 20000 in
theorem ggX0_turnTo_J6_bitCount_0f7a4 : GoodIn wsX0_turnTo wsJ6_bitCount_0f7a4 := goodIn_r _ [13, 14, 15, 16] (by decide +kernel) (by decide +kernel)
set_option maxRecDepth 20000 in
theorem gX0_turnTo_J6_bitCount_0f7a4 : GoodIn wsX0_turnTo (va_wsS RX0 60 yJ6_bitCount_0f7a4 wsJ6_bitCount_0f7a4) := goodIn_app (goodIn_of _ (by decide +kernel)) ggX0_turnTo_J6_bitCount_0f7a4
set_option maxRecDepth 20000 in
theorem ggX0_turnTo_X5_put : GoodIn wsX0_turnTo wsX5_put := goodIn_r _ [18] (by decide +kernel) (by decide +kernel)
set_option maxRecDepth 20000 in
theorem gX0_turnTo_X5_put_n48 : GoodIn wsX0_turnTo (wsX5_put) := ggX0_turnTo_X5_put
theorem dX0_turnTo_0 : decode cX0_turnTo 0 = .ok (.aload_n 0, 1) := by decide +kernel
theorem dX0_turnTo_1 : decode cX0_turnTo 1 = .ok (.getfield 22, 3) := by decide +kernel
theorem dX0_turnTo_4 : decode cX0_turnTo 4 = .ok (.lload_n 1, 1) := by decide +kernel
theorem dX0_turnTo_5 : decode cX0_turnTo 5 = .ok (.lxor, 1) := by decide +kernel
theorem dX0_turnTo_6 : decode cX0_turnTo 6 = .ok (.lstore_n 3, 1) := by decide +kernel
theorem dX0_turnTo_7 : decode cX0_turnTo 7 = .ok (.iconst 0, 1) := by decide +kernel
theorem dX0_turnTo_8 : decode cX0_turnTo 8 = .ok (.istore 5, 2) := by decide +kernel
theorem dX0_turnTo_10 : decode cX0_turnTo 10 = .ok (.iload 5, 2) := by decide +kernel
theorem dX0_turnTo_12 : decode cX0_turnTo 12 = .ok (.aload_n 0, 1) := by decide +kernel
theorem dX0_turnTo_13 : decode cX0_turnTo 13 = .ok (.getfield 18, 3) := by decide +kernel
theorem dX0_turnTo_16 : decode cX0_turnTo 16 = .ok (.if_icmp .ge 37, 3) := by decide +kernel
theorem dX0_turnTo_19 : decode cX0_turnTo 19 = .ok (.aload_n 0, 1) := by decide +kernel
theorem dX0_turnTo_20 : decode cX0_turnTo 20 = .ok (.getfield 15, 3) := by decide +kernel
theorem dX0_turnTo_23 : decode cX0_turnTo 23 = .ok (.iload 5, 2) := by decide +kernel
theorem dX0_turnTo_25 : decode cX0_turnTo 25 = .ok (.aload_n 0, 1) := by decide +kernel
theorem dX0_turnTo_26 : decode cX0_turnTo 26 = .ok (.getfield 15, 3) := by decide +kernel
theorem dX0_turnTo_29 : decode cX0_turnTo 29 = .ok (.iload 5, 2) := by decide +kernel
theorem dX0_turnTo_31 : decode cX0_turnTo 31 = .ok (.invokestatic 52, 3) := by decide +kernel
theorem dX0_turnTo_34 : decode cX0_turnTo 34 = .ok (.lload_n 3, 1) := by decide +kernel
theorem dX0_turnTo_35 : decode cX0_turnTo 35 = .ok (.iload 5, 2) := by decide +kernel
theorem dX0_turnTo_37 : decode cX0_turnTo 37 = .ok (.invokestatic 56, 3) := by decide +kernel
theorem dX0_turnTo_40 : decode cX0_turnTo 40 = .ok (.invokestatic 60, 3) := by decide +kernel
theorem dX0_turnTo_43 : decode cX0_turnTo 43 = .ok (.iadd, 1) := by decide +kernel
theorem dX0_turnTo_44 : decode cX0_turnTo 44 = .ok (.invokestatic 48, 3) := by decide +kernel
theorem dX0_turnTo_47 : decode cX0_turnTo 47 = .ok (.iinc 5 1, 3) := by decide +kernel
theorem dX0_turnTo_50 : decode cX0_turnTo 50 = .ok (.goto (-40), 3) := by decide +kernel
theorem dX0_turnTo_53 : decode cX0_turnTo 53 = .ok (.iconst 0, 1) := by decide +kernel
theorem dX0_turnTo_54 : decode cX0_turnTo 54 = .ok (.istore 5, 2) := by decide +kernel
theorem dX0_turnTo_56 : decode cX0_turnTo 56 = .ok (.iload 5, 2) := by decide +kernel
theorem dX0_turnTo_58 : decode cX0_turnTo 58 = .ok (.aload_n 0, 1) := by decide +kernel
theorem dX0_turnTo_59 : decode cX0_turnTo 59 = .ok (.getfield 9, 3) := by decide +kernel
theorem dX0_turnTo_62 : decode cX0_turnTo 62 = .ok (.arraylength, 1) := by decide +kernel
theorem dX0_turnTo_63 : decode cX0_turnTo 63 = .ok (.if_icmp .ge 26, 3) := by decide +kernel
theorem dX0_turnTo_66 : decode cX0_turnTo 66 = .ok (.aload_n 0, 1) := by decide +kernel
theorem dX0_turnTo_67 : decode cX0_turnTo 67 = .ok (.getfield 9, 3) := by decide +kernel
theorem dX0_turnTo_70 : decode cX0_turnTo 70 = .ok (.iload 5, 2) := by decide +kernel
theorem dX0_turnTo_72 : decode cX0_turnTo 72 = .ok (.dup2, 1) := by decide +kernel
theorem dX0_turnTo_73 : decode cX0_turnTo 73 = .ok (.iaload, 1) := by decide +kernel
theorem dX0_turnTo_74 : decode cX0_turnTo 74 = .ok (.lload_n 3, 1) := by decide +kernel
theorem dX0_turnTo_75 : decode cX0_turnTo 75 = .ok (.iload 5, 2) := by decide +kernel
theorem dX0_turnTo_77 : decode cX0_turnTo 77 = .ok (.lushr, 1) := by decide +kernel
theorem dX0_turnTo_78 : decode cX0_turnTo 78 = .ok (.lconst 1, 1) := by decide +kernel
theorem dX0_turnTo_79 : decode cX0_turnTo 79 = .ok (.land, 1) := by decide +kernel
theorem dX0_turnTo_80 : decode cX0_turnTo 80 = .ok (.l2i, 1) := by decide +kernel
theorem dX0_turnTo_81 : decode cX0_turnTo 81 = .ok (.iadd, 1) := by decide +kernel
theorem dX0_turnTo_82 : decode cX0_turnTo 82 = .ok (.iastore, 1) := by decide +kernel
theorem dX0_turnTo_83 : decode cX0_turnTo 83 = .ok (.iinc 5 1, 3) := by decide +kernel
theorem dX0_turnTo_86 : decode cX0_turnTo 86 = .ok (.goto (-30), 3) := by decide +kernel
theorem dX0_turnTo_89 : decode cX0_turnTo 89 = .ok (.aload_n 0, 1) := by decide +kernel
theorem dX0_turnTo_90 : decode cX0_turnTo 90 = .ok (.lload_n 1, 1) := by decide +kernel
theorem dX0_turnTo_91 : decode cX0_turnTo 91 = .ok (.putfield 22, 3) := by decide +kernel
theorem dX0_turnTo_94 : decode cX0_turnTo 94 = .ok (.return_, 1) := by decide +kernel
set_option maxRecDepth 20000 in
theorem ggX0_flipsIn_X5_bitOf : GoodIn wsX0_flipsIn wsX5_bitOf := goodIn_r _ [4] (by decide +kernel) (by decide +kernel)
set_option maxRecDepth 20000 in
theorem gX0_flipsIn_X5_bitOf_n44 : GoodIn wsX0_flipsIn (wsX5_bitOf) := ggX0_flipsIn_X5_bitOf
set_option maxRecDepth 20000 in
theorem ggX0_flipsIn_X5_at : GoodIn wsX0_flipsIn wsX5_at := goodIn_r _ [6] (by decide +kernel) (by decide +kernel)
set_option maxRecDepth 20000 in
theorem gX0_flipsIn_X5_at_n52 : GoodIn wsX0_flipsIn (wsX5_at) := ggX0_flipsIn_X5_at
theorem dX0_flipsIn_0 : decode cX0_flipsIn 0 = .ok (.iconst 0, 1) := by decide +kernel
theorem dX0_flipsIn_1 : decode cX0_flipsIn 1 = .ok (.istore_n 2, 1) := by decide +kernel
theorem dX0_flipsIn_2 : decode cX0_flipsIn 2 = .ok (.iconst 0, 1) := by decide +kernel
theorem dX0_flipsIn_3 : decode cX0_flipsIn 3 = .ok (.istore_n 3, 1) := by decide +kernel
theorem dX0_flipsIn_4 : decode cX0_flipsIn 4 = .ok (.iload_n 3, 1) := by decide +kernel
theorem dX0_flipsIn_5 : decode cX0_flipsIn 5 = .ok (.iconst 5, 1) := by decide +kernel
theorem dX0_flipsIn_6 : decode cX0_flipsIn 6 = .ok (.if_icmp .ge 24, 3) := by decide +kernel
theorem dX0_flipsIn_9 : decode cX0_flipsIn 9 = .ok (.iload_n 2, 1) := by decide +kernel
theorem dX0_flipsIn_10 : decode cX0_flipsIn 10 = .ok (.aload_n 0, 1) := by decide +kernel
theorem dX0_flipsIn_11 : decode cX0_flipsIn 11 = .ok (.getfield 9, 3) := by decide +kernel
theorem dX0_flipsIn_14 : decode cX0_flipsIn 14 = .ok (.iload_n 1, 1) := by decide +kernel
theorem dX0_flipsIn_15 : decode cX0_flipsIn 15 = .ok (.iload_n 3, 1) := by decide +kernel
theorem dX0_flipsIn_16 : decode cX0_flipsIn 16 = .ok (.invokestatic 44, 3) := by decide +kernel
theorem dX0_flipsIn_19 : decode cX0_flipsIn 19 = .ok (.invokestatic 52, 3) := by decide +kernel
theorem dX0_flipsIn_22 : decode cX0_flipsIn 22 = .ok (.iadd, 1) := by decide +kernel
theorem dX0_flipsIn_23 : decode cX0_flipsIn 23 = .ok (.istore_n 2, 1) := by decide +kernel
theorem dX0_flipsIn_24 : decode cX0_flipsIn 24 = .ok (.iinc 3 1, 3) := by decide +kernel
theorem dX0_flipsIn_27 : decode cX0_flipsIn 27 = .ok (.goto (-23), 3) := by decide +kernel
theorem dX0_flipsIn_30 : decode cX0_flipsIn 30 = .ok (.iload_n 2, 1) := by decide +kernel
theorem dX0_flipsIn_31 : decode cX0_flipsIn 31 = .ok (.ireturn, 1) := by decide +kernel
set_option maxRecDepth 20000 in
theorem ggX0_allFlips_X0_flipsIn : GoodIn wsX0_allFlips wsX0_flipsIn := goodIn_r _ [6, 7, 8, 9, 10, 11, 12, 13, 14, 15, 16, 17, 18] (by decide +kernel) (by decide +kernel)
set_option maxRecDepth 20000 in
theorem gX0_allFlips_X0_flipsIn : GoodIn wsX0_allFlips (wsV RX0 66 RX0 yX0_flipsIn wsX0_flipsIn) := goodIn_app (goodIn_of _ (by decide +kernel)) ggX0_allFlips_X0_flipsIn
theorem dX0_allFlips_0 : decode cX0_allFlips 0 = .ok (.iconst 0, 1) := by decide +kernel
theorem dX0_allFlips_1 : decode cX0_allFlips 1 = .ok (.istore_n 1, 1) := by decide +kernel
theorem dX0_allFlips_2 : decode cX0_allFlips 2 = .ok (.iconst 0, 1) := by decide +kernel
theorem dX0_allFlips_3 : decode cX0_allFlips 3 = .ok (.istore_n 2, 1) := by decide +kernel
theorem dX0_allFlips_4 : decode cX0_allFlips 4 = .ok (.iload_n 2, 1) := by decide +kernel
theorem dX0_allFlips_5 : decode cX0_allFlips 5 = .ok (.aload_n 0, 1) := by decide +kernel
theorem dX0_allFlips_6 : decode cX0_allFlips 6 = .ok (.getfield 18, 3) := by decide +kernel
theorem dX0_allFlips_9 : decode cX0_allFlips 9 = .ok (.if_icmp .ge 17, 3) := by decide +kernel
theorem dX0_allFlips_12 : decode cX0_allFlips 12 = .ok (.iload_n 1, 1) := by decide +kernel
theorem dX0_allFlips_13 : decode cX0_allFlips 13 = .ok (.aload_n 0, 1) := by decide +kernel
theorem dX0_allFlips_14 : decode cX0_allFlips 14 = .ok (.iload_n 2, 1) := by decide +kernel
theorem dX0_allFlips_15 : decode cX0_allFlips 15 = .ok (.invokevirtual 66, 3) := by decide +kernel
theorem dX0_allFlips_18 : decode cX0_allFlips 18 = .ok (.iadd, 1) := by decide +kernel
theorem dX0_allFlips_19 : decode cX0_allFlips 19 = .ok (.istore_n 1, 1) := by decide +kernel
theorem dX0_allFlips_20 : decode cX0_allFlips 20 = .ok (.iinc 2 1, 3) := by decide +kernel
theorem dX0_allFlips_23 : decode cX0_allFlips 23 = .ok (.goto (-19), 3) := by decide +kernel
theorem dX0_allFlips_26 : decode cX0_allFlips 26 = .ok (.iload_n 1, 1) := by decide +kernel
theorem dX0_allFlips_27 : decode cX0_allFlips 27 = .ok (.ireturn, 1) := by decide +kernel
set_option maxRecDepth 20000 in
theorem ggX0_isTrue_X5_at : GoodIn wsX0_isTrue wsX5_at := goodIn_r _ [6] (by decide +kernel) (by decide +kernel)
set_option maxRecDepth 20000 in
theorem gX0_isTrue_X5_at_n52 : GoodIn wsX0_isTrue (wsX5_at) := ggX0_isTrue_X5_at
set_option maxRecDepth 20000 in
theorem ggX0_isTrue_X0_flipsIn : GoodIn wsX0_isTrue wsX0_flipsIn := goodIn_r _ [11, 12, 13, 5, 14, 4, 6, 22, 23, 24, 25, 26, 27] (by decide +kernel) (by decide +kernel)
set_option maxRecDepth 20000 in
theorem gX0_isTrue_X0_flipsIn : GoodIn wsX0_isTrue (wsV RX0 66 RX0 yX0_flipsIn wsX0_flipsIn) := goodIn_app (goodIn_of _ (by decide +kernel)) ggX0_isTrue_X0_flipsIn
set_option maxRecDepth 20000 in
theorem ggX0_isTrue_X0_withStuck : GoodIn wsX0_isTrue wsX0_withStuck := goodIn_r _ [18, 19, 20, 21, 22, 23, 24, 25, 26, 27] (by decide +kernel) (by decide +kernel)
set_option maxRecDepth 20000 in
theorem gX0_isTrue_X0_withStuck : GoodIn wsX0_isTrue (wsV RX0 38 RX0 yX0_withStuck wsX0_withStuck) := goodIn_app (goodIn_of _ (by decide +kernel)) ggX0_isTrue_X0_withStuck
theorem dX0_isTrue_0 : decode cX0_isTrue 0 = .ok (.iconst 0, 1) := by decide +kernel
theorem dX0_isTrue_1 : decode cX0_isTrue 1 = .ok (.istore_n 1, 1) := by decide +kernel
theorem dX0_isTrue_2 : decode cX0_isTrue 2 = .ok (.iload_n 1, 1) := by decide +kernel
theorem dX0_isTrue_3 : decode cX0_isTrue 3 = .ok (.aload_n 0, 1) := by decide +kernel
theorem dX0_isTrue_4 : decode cX0_isTrue 4 = .ok (.getfield 18, 3) := by decide +kernel
theorem dX0_isTrue_7 : decode cX0_isTrue 7 = .ok (.if_icmp .ge 27, 3) := by decide +kernel
theorem dX0_isTrue_10 : decode cX0_isTrue 10 = .ok (.aload_n 0, 1) := by decide +kernel
theorem dX0_isTrue_11 : decode cX0_isTrue 11 = .ok (.getfield 15, 3) := by decide +kernel
theorem dX0_isTrue_14 : decode cX0_isTrue 14 = .ok (.iload_n 1, 1) := by decide +kernel
theorem dX0_isTrue_15 : decode cX0_isTrue 15 = .ok (.invokestatic 52, 3) := by decide +kernel
theorem dX0_isTrue_18 : decode cX0_isTrue 18 = .ok (.aload_n 0, 1) := by decide +kernel
theorem dX0_isTrue_19 : decode cX0_isTrue 19 = .ok (.iload_n 1, 1) := by decide +kernel
theorem dX0_isTrue_20 : decode cX0_isTrue 20 = .ok (.invokevirtual 66, 3) := by decide +kernel
theorem dX0_isTrue_23 : decode cX0_isTrue 23 = .ok (.if_icmp .le 5, 3) := by decide +kernel
theorem dX0_isTrue_26 : decode cX0_isTrue 26 = .ok (.iconst 0, 1) := by decide +kernel
theorem dX0_isTrue_27 : decode cX0_isTrue 27 = .ok (.ireturn, 1) := by decide +kernel
theorem dX0_isTrue_28 : decode cX0_isTrue 28 = .ok (.iinc 1 1, 3) := by decide +kernel
theorem dX0_isTrue_31 : decode cX0_isTrue 31 = .ok (.goto (-29), 3) := by decide +kernel
theorem dX0_isTrue_34 : decode cX0_isTrue 34 = .ok (.aload_n 0, 1) := by decide +kernel
theorem dX0_isTrue_35 : decode cX0_isTrue 35 = .ok (.aload_n 0, 1) := by decide +kernel
theorem dX0_isTrue_36 : decode cX0_isTrue 36 = .ok (.getfield 22, 3) := by decide +kernel
theorem dX0_isTrue_39 : decode cX0_isTrue 39 = .ok (.invokevirtual 38, 3) := by decide +kernel
theorem dX0_isTrue_42 : decode cX0_isTrue 42 = .ok (.aload_n 0, 1) := by decide +kernel
theorem dX0_isTrue_43 : decode cX0_isTrue 43 = .ok (.getfield 22, 3) := by decide +kernel
theorem dX0_isTrue_46 : decode cX0_isTrue 46 = .ok (.lcmp, 1) := by decide +kernel
theorem dX0_isTrue_47 : decode cX0_isTrue 47 = .ok (.ifCond .ne 7, 3) := by decide +kernel
theorem dX0_isTrue_50 : decode cX0_isTrue 50 = .ok (.iconst 1, 1) := by decide +kernel
theorem dX0_isTrue_51 : decode cX0_isTrue 51 = .ok (.goto 4, 3) := by decide +kernel
theorem dX0_isTrue_54 : decode cX0_isTrue 54 = .ok (.iconst 0, 1) := by decide +kernel
theorem dX0_isTrue_55 : decode cX0_isTrue 55 = .ok (.ireturn, 1) := by decide +kernel
theorem dX1_init_0 : decode cX1_init 0 = .ok (.aload_n 0, 1) := by decide +kernel
theorem dX1_init_1 : decode cX1_init 1 = .ok (.invokespecial 3, 3) := by decide +kernel
theorem dX1_init_4 : decode cX1_init 4 = .ok (.aload_n 0, 1) := by decide +kernel
theorem dX1_init_5 : decode cX1_init 5 = .ok (.bipush 7, 2) := by decide +kernel
theorem dX1_init_7 : decode cX1_init 7 = .ok (.newarray .int, 2) := by decide +kernel
theorem dX1_init_9 : decode cX1_init 9 = .ok (.putfield 9, 3) := by decide +kernel
theorem dX1_init_12 : decode cX1_init 12 = .ok (.aload_n 0, 1) := by decide +kernel
theorem dX1_init_13 : decode cX1_init 13 = .ok (.bipush 7, 2) := by decide +kernel
theorem dX1_init_15 : decode cX1_init 15 = .ok (.newarray .int, 2) := by decide +kernel
theorem dX1_init_17 : decode cX1_init 17 = .ok (.putfield 15, 3) := by decide +kernel
theorem dX1_init_20 : decode cX1_init 20 = .ok (.aload_n 0, 1) := by decide +kernel
theorem dX1_init_21 : decode cX1_init 21 = .ok (.bipush 8, 2) := by decide +kernel
theorem dX1_init_23 : decode cX1_init 23 = .ok (.newarray .int, 2) := by decide +kernel
theorem dX1_init_25 : decode cX1_init 25 = .ok (.putfield 18, 3) := by decide +kernel
theorem dX1_init_28 : decode cX1_init 28 = .ok (.aload_n 0, 1) := by decide +kernel
theorem dX1_init_29 : decode cX1_init 29 = .ok (.bipush 8, 2) := by decide +kernel
theorem dX1_init_31 : decode cX1_init 31 = .ok (.newarray .int, 2) := by decide +kernel
theorem dX1_init_33 : decode cX1_init 33 = .ok (.putfield 21, 3) := by decide +kernel
theorem dX1_init_36 : decode cX1_init 36 = .ok (.aload_n 0, 1) := by decide +kernel
theorem dX1_init_37 : decode cX1_init 37 = .ok (.bipush 8, 2) := by decide +kernel
theorem dX1_init_39 : decode cX1_init 39 = .ok (.newarray .long, 2) := by decide +kernel
theorem dX1_init_41 : decode cX1_init 41 = .ok (.putfield 24, 3) := by decide +kernel
theorem dX1_init_44 : decode cX1_init 44 = .ok (.return_, 1) := by decide +kernel
set_option maxRecDepth 20000 in
theorem ggX1_addLetter_X5_put : GoodIn wsX1_addLetter wsX5_put := goodIn_r _ [6] (by decide +kernel) (by decide +kernel)
set_option maxRecDepth 20000 in
theorem gX1_addLetter_X5_put_n32 : GoodIn wsX1_addLetter (wsX5_put) := ggX1_addLetter_X5_put
theorem dX1_addLetter_0 : decode cX1_addLetter 0 = .ok (.aload_n 0, 1) := by decide +kernel
theorem dX1_addLetter_1 : decode cX1_addLetter 1 = .ok (.dup, 1) := by decide +kernel
theorem dX1_addLetter_2 : decode cX1_addLetter 2 = .ok (.getfield 28, 3) := by decide +kernel
theorem dX1_addLetter_5 : decode cX1_addLetter 5 = .ok (.iconst 1, 1) := by decide +kernel
theorem dX1_addLetter_6 : decode cX1_addLetter 6 = .ok (.iadd, 1) := by decide +kernel
theorem dX1_addLetter_7 : decode cX1_addLetter 7 = .ok (.putfield 28, 3) := by decide +kernel
theorem dX1_addLetter_10 : decode cX1_addLetter 10 = .ok (.aload_n 0, 1) := by decide +kernel
theorem dX1_addLetter_11 : decode cX1_addLetter 11 = .ok (.getfield 9, 3) := by decide +kernel
theorem dX1_addLetter_14 : decode cX1_addLetter 14 = .ok (.aload_n 0, 1) := by decide +kernel
theorem dX1_addLetter_15 : decode cX1_addLetter 15 = .ok (.getfield 28, 3) := by decide +kernel
theorem dX1_addLetter_18 : decode cX1_addLetter 18 = .ok (.iload_n 1, 1) := by decide +kernel
theorem dX1_addLetter_19 : decode cX1_addLetter 19 = .ok (.invokestatic 32, 3) := by decide +kernel
theorem dX1_addLetter_22 : decode cX1_addLetter 22 = .ok (.aload_n 0, 1) := by decide +kernel
theorem dX1_addLetter_23 : decode cX1_addLetter 23 = .ok (.getfield 15, 3) := by decide +kernel
theorem dX1_addLetter_26 : decode cX1_addLetter 26 = .ok (.aload_n 0, 1) := by decide +kernel
theorem dX1_addLetter_27 : decode cX1_addLetter 27 = .ok (.getfield 28, 3) := by decide +kernel
theorem dX1_addLetter_30 : decode cX1_addLetter 30 = .ok (.iload_n 2, 1) := by decide +kernel
theorem dX1_addLetter_31 : decode cX1_addLetter 31 = .ok (.invokestatic 32, 3) := by decide +kernel
theorem dX1_addLetter_34 : decode cX1_addLetter 34 = .ok (.aload_n 0, 1) := by decide +kernel
theorem dX1_addLetter_35 : decode cX1_addLetter 35 = .ok (.getfield 28, 3) := by decide +kernel
theorem dX1_addLetter_38 : decode cX1_addLetter 38 = .ok (.ireturn, 1) := by decide +kernel
theorem dX1_canSpell_0 : decode cX1_canSpell 0 = .ok (.iload_n 1, 1) := by decide +kernel
theorem dX1_canSpell_1 : decode cX1_canSpell 1 = .ok (.iconst 1, 1) := by decide +kernel
theorem dX1_canSpell_2 : decode cX1_canSpell 2 = .ok (.if_icmp .lt 10, 3) := by decide +kernel
theorem dX1_canSpell_5 : decode cX1_canSpell 5 = .ok (.iload_n 1, 1) := by decide +kernel
theorem dX1_canSpell_6 : decode cX1_canSpell 6 = .ok (.sipush 9999, 3) := by decide +kernel
theorem dX1_canSpell_9 : decode cX1_canSpell 9 = .ok (.if_icmp .le 5, 3) := by decide +kernel
theorem dX1_canSpell_12 : decode cX1_canSpell 12 = .ok (.iconst 0, 1) := by decide +kernel
theorem dX1_canSpell_13 : decode cX1_canSpell 13 = .ok (.ireturn, 1) := by decide +kernel
theorem dX1_canSpell_14 : decode cX1_canSpell 14 = .ok (.iload_n 1, 1) := by decide +kernel
theorem dX1_canSpell_15 : decode cX1_canSpell 15 = .ok (.istore_n 2, 1) := by decide +kernel
theorem dX1_canSpell_16 : decode cX1_canSpell 16 = .ok (.iconst 0, 1) := by decide +kernel
theorem dX1_canSpell_17 : decode cX1_canSpell 17 = .ok (.istore_n 3, 1) := by decide +kernel
theorem dX1_canSpell_18 : decode cX1_canSpell 18 = .ok (.iload_n 3, 1) := by decide +kernel
theorem dX1_canSpell_19 : decode cX1_canSpell 19 = .ok (.iconst 4, 1) := by decide +kernel
theorem dX1_canSpell_20 : decode cX1_canSpell 20 = .ok (.if_icmp .ge 41, 3) := by decide +kernel
theorem dX1_canSpell_23 : decode cX1_canSpell 23 = .ok (.iload_n 2, 1) := by decide +kernel
theorem dX1_canSpell_24 : decode cX1_canSpell 24 = .ok (.ifCond .le 37, 3) := by decide +kernel
theorem dX1_canSpell_27 : decode cX1_canSpell 27 = .ok (.iload_n 2, 1) := by decide +kernel
theorem dX1_canSpell_28 : decode cX1_canSpell 28 = .ok (.bipush 10, 2) := by decide +kernel
theorem dX1_canSpell_30 : decode cX1_canSpell 30 = .ok (.irem, 1) := by decide +kernel
theorem dX1_canSpell_31 : decode cX1_canSpell 31 = .ok (.istore 4, 2) := by decide +kernel
theorem dX1_canSpell_33 : decode cX1_canSpell 33 = .ok (.iload 4, 2) := by decide +kernel
theorem dX1_canSpell_35 : decode cX1_canSpell 35 = .ok (.iconst 1, 1) := by decide +kernel
theorem dX1_canSpell_36 : decode cX1_canSpell 36 = .ok (.if_icmp .lt 12, 3) := by decide +kernel
theorem dX1_canSpell_39 : decode cX1_canSpell 39 = .ok (.iload 4, 2) := by decide +kernel
theorem dX1_canSpell_41 : decode cX1_canSpell 41 = .ok (.aload_n 0, 1) := by decide +kernel
theorem dX1_canSpell_42 : decode cX1_canSpell 42 = .ok (.getfield 28, 3) := by decide +kernel
theorem dX1_canSpell_45 : decode cX1_canSpell 45 = .ok (.if_icmp .le 5, 3) := by decide +kernel
theorem dX1_canSpell_48 : decode cX1_canSpell 48 = .ok (.iconst 0, 1) := by decide +kernel
theorem dX1_canSpell_49 : decode cX1_canSpell 49 = .ok (.ireturn, 1) := by decide +kernel
theorem dX1_canSpell_50 : decode cX1_canSpell 50 = .ok (.iload_n 2, 1) := by decide +kernel
theorem dX1_canSpell_51 : decode cX1_canSpell 51 = .ok (.bipush 10, 2) := by decide +kernel
theorem dX1_canSpell_53 : decode cX1_canSpell 53 = .ok (.idiv, 1) := by decide +kernel
theorem dX1_canSpell_54 : decode cX1_canSpell 54 = .ok (.istore_n 2, 1) := by decide +kernel
theorem dX1_canSpell_55 : decode cX1_canSpell 55 = .ok (.iinc 3 1, 3) := by decide +kernel
theorem dX1_canSpell_58 : decode cX1_canSpell 58 = .ok (.goto (-40), 3) := by decide +kernel
theorem dX1_canSpell_61 : decode cX1_canSpell 61 = .ok (.iconst 1, 1) := by decide +kernel
theorem dX1_canSpell_62 : decode cX1_canSpell 62 = .ok (.ireturn, 1) := by decide +kernel
set_option maxRecDepth 20000 in
theorem ggX1_hasRow_X5_at : GoodIn wsX1_hasRow wsX5_at := goodIn_r _ [5] (by decide +kernel) (by decide +kernel)
set_option maxRecDepth 20000 in
theorem gX1_hasRow_X5_at_n39 : GoodIn wsX1_hasRow (wsX5_at) := ggX1_hasRow_X5_at
theorem dX1_hasRow_0 : decode cX1_hasRow 0 = .ok (.iconst 0, 1) := by decide +kernel
theorem dX1_hasRow_1 : decode cX1_hasRow 1 = .ok (.istore_n 2, 1) := by decide +kernel
theorem dX1_hasRow_2 : decode cX1_hasRow 2 = .ok (.iload_n 2, 1) := by decide +kernel
theorem dX1_hasRow_3 : decode cX1_hasRow 3 = .ok (.aload_n 0, 1) := by decide +kernel
theorem dX1_hasRow_4 : decode cX1_hasRow 4 = .ok (.getfield 36, 3) := by decide +kernel
theorem dX1_hasRow_7 : decode cX1_hasRow 7 = .ok (.if_icmp .ge 23, 3) := by decide +kernel
theorem dX1_hasRow_10 : decode cX1_hasRow 10 = .ok (.aload_n 0, 1) := by decide +kernel
theorem dX1_hasRow_11 : decode cX1_hasRow 11 = .ok (.getfield 18, 3) := by decide +kernel
theorem dX1_hasRow_14 : decode cX1_hasRow 14 = .ok (.iload_n 2, 1) := by decide +kernel
theorem dX1_hasRow_15 : decode cX1_hasRow 15 = .ok (.invokestatic 39, 3) := by decide +kernel
theorem dX1_hasRow_18 : decode cX1_hasRow 18 = .ok (.iload_n 1, 1) := by decide +kernel
theorem dX1_hasRow_19 : decode cX1_hasRow 19 = .ok (.if_icmp .ne 5, 3) := by decide +kernel
theorem dX1_hasRow_22 : decode cX1_hasRow 22 = .ok (.iconst 1, 1) := by decide +kernel
theorem dX1_hasRow_23 : decode cX1_hasRow 23 = .ok (.ireturn, 1) := by decide +kernel
theorem dX1_hasRow_24 : decode cX1_hasRow 24 = .ok (.iinc 2 1, 3) := by decide +kernel
theorem dX1_hasRow_27 : decode cX1_hasRow 27 = .ok (.goto (-25), 3) := by decide +kernel
theorem dX1_hasRow_30 : decode cX1_hasRow 30 = .ok (.iconst 0, 1) := by decide +kernel
theorem dX1_hasRow_31 : decode cX1_hasRow 31 = .ok (.ireturn, 1) := by decide +kernel
set_option maxRecDepth 20000 in
theorem ggX1_addLine_X1_letterFrom : GoodIn wsX1_addLine wsX1_letterFrom := goodIn_r _ [10, 11, 12, 13, 14, 15, 16, 21, 22, 23, 24, 25, 26, 27] (by decide +kernel) (by decide +kernel)
set_option maxRecDepth 20000 in
theorem gX1_addLine_X1_letterFrom : GoodIn wsX1_addLine (wsV RX1 43 RX1 yX1_letterFrom wsX1_letterFrom) := goodIn_app (goodIn_of _ (by decide +kernel)) ggX1_addLine_X1_letterFrom
set_option maxRecDepth 20000 in
theorem ggX1_addLine_X5_at : GoodIn wsX1_addLine wsX5_at := goodIn_r _ [14] (by decide +kernel) (by decide +kernel)
set_option maxRecDepth 20000 in
theorem gX1_addLine_X5_at_n39 : GoodIn wsX1_addLine (wsX5_at) := ggX1_addLine_X5_at
set_option maxRecDepth 20000 in
theorem ggX1_addLine_X5_put : GoodIn wsX1_addLine wsX5_put := goodIn_r _ [18] (by decide +kernel) (by decide +kernel)
set_option maxRecDepth 20000 in
theorem gX1_addLine_X5_put_n32 : GoodIn wsX1_addLine (wsX5_put) := ggX1_addLine_X5_put
set_option maxRecDepth 20000 in
theorem ggX1_addLine_X5_put_ : GoodIn wsX1_addLine wsX5_put_ := goodIn_r _ [20] (by decide +kernel) (by decide +kernel)
set_option maxRecDepth 20000 in
theorem gX1_addLine_X5_put__n47 : GoodIn wsX1_addLine (wsX5_put_) := ggX1_addLine_X5_put_
theorem dX1_addLine_0 : decode cX1_addLine 0 = .ok (.lconst 0, 1) := by decide +kernel
theorem dX1_addLine_1 : decode cX1_addLine 1 = .ok (.lstore_n 2, 1) := by decide +kernel
theorem dX1_addLine_2 : decode cX1_addLine 2 = .ok (.iconst 0, 1) := by decide +kernel
theorem dX1_addLine_3 : decode cX1_addLine 3 = .ok (.istore 4, 2) := by decide +kernel
theorem dX1_addLine_5 : decode cX1_addLine 5 = .ok (.sipush 1000, 3) := by decide +kernel
theorem dX1_addLine_8 : decode cX1_addLine 8 = .ok (.istore 5, 2) := by decide +kernel
theorem dX1_addLine_10 : decode cX1_addLine 10 = .ok (.iload 5, 2) := by decide +kernel
theorem dX1_addLine_12 : decode cX1_addLine 12 = .ok (.ifCond .le 67, 3) := by decide +kernel
theorem dX1_addLine_15 : decode cX1_addLine 15 = .ok (.iload_n 1, 1) := by decide +kernel
theorem dX1_addLine_16 : decode cX1_addLine 16 = .ok (.iload 5, 2) := by decide +kernel
theorem dX1_addLine_18 : decode cX1_addLine 18 = .ok (.idiv, 1) := by decide +kernel
theorem dX1_addLine_19 : decode cX1_addLine 19 = .ok (.bipush 10, 2) := by decide +kernel
theorem dX1_addLine_21 : decode cX1_addLine 21 = .ok (.irem, 1) := by decide +kernel
theorem dX1_addLine_22 : decode cX1_addLine 22 = .ok (.istore 6, 2) := by decide +kernel
theorem dX1_addLine_24 : decode cX1_addLine 24 = .ok (.iload 6, 2) := by decide +kernel
theorem dX1_addLine_26 : decode cX1_addLine 26 = .ok (.ifCond .le 43, 3) := by decide +kernel
theorem dX1_addLine_29 : decode cX1_addLine 29 = .ok (.iload 4, 2) := by decide +kernel
theorem dX1_addLine_31 : decode cX1_addLine 31 = .ok (.iload 4, 2) := by decide +kernel
theorem dX1_addLine_33 : decode cX1_addLine 33 = .ok (.ifCond .le 7, 3) := by decide +kernel
theorem dX1_addLine_36 : decode cX1_addLine 36 = .ok (.iconst 1, 1) := by decide +kernel
theorem dX1_addLine_37 : decode cX1_addLine 37 = .ok (.goto 4, 3) := by decide +kernel
theorem dX1_addLine_40 : decode cX1_addLine 40 = .ok (.iconst 0, 1) := by decide +kernel
theorem dX1_addLine_41 : decode cX1_addLine 41 = .ok (.iadd, 1) := by decide +kernel
theorem dX1_addLine_42 : decode cX1_addLine 42 = .ok (.istore 4, 2) := by decide +kernel
theorem dX1_addLine_44 : decode cX1_addLine 44 = .ok (.lload_n 2, 1) := by decide +kernel
theorem dX1_addLine_45 : decode cX1_addLine 45 = .ok (.aload_n 0, 1) := by decide +kernel
theorem dX1_addLine_46 : decode cX1_addLine 46 = .ok (.iload 6, 2) := by decide +kernel
theorem dX1_addLine_48 : decode cX1_addLine 48 = .ok (.iload 4, 2) := by decide +kernel
theorem dX1_addLine_50 : decode cX1_addLine 50 = .ok (.invokevirtual 43, 3) := by decide +kernel
theorem dX1_addLine_53 : decode cX1_addLine 53 = .ok (.lor, 1) := by decide +kernel
theorem dX1_addLine_54 : decode cX1_addLine 54 = .ok (.lstore_n 2, 1) := by decide +kernel
theorem dX1_addLine_55 : decode cX1_addLine 55 = .ok (.iload 4, 2) := by decide +kernel
theorem dX1_addLine_57 : decode cX1_addLine 57 = .ok (.aload_n 0, 1) := by decide +kernel
theorem dX1_addLine_58 : decode cX1_addLine 58 = .ok (.getfield 9, 3) := by decide +kernel
theorem dX1_addLine_61 : decode cX1_addLine 61 = .ok (.iload 6, 2) := by decide +kernel
theorem dX1_addLine_63 : decode cX1_addLine 63 = .ok (.invokestatic 39, 3) := by decide +kernel
theorem dX1_addLine_66 : decode cX1_addLine 66 = .ok (.iadd, 1) := by decide +kernel
theorem dX1_addLine_67 : decode cX1_addLine 67 = .ok (.istore 4, 2) := by decide +kernel
theorem dX1_addLine_69 : decode cX1_addLine 69 = .ok (.iload 5, 2) := by decide +kernel
theorem dX1_addLine_71 : decode cX1_addLine 71 = .ok (.bipush 10, 2) := by decide +kernel
theorem dX1_addLine_73 : decode cX1_addLine 73 = .ok (.idiv, 1) := by decide +kernel
theorem dX1_addLine_74 : decode cX1_addLine 74 = .ok (.istore 5, 2) := by decide +kernel
theorem dX1_addLine_76 : decode cX1_addLine 76 = .ok (.goto (-66), 3) := by decide +kernel
theorem dX1_addLine_79 : decode cX1_addLine 79 = .ok (.aload_n 0, 1) := by decide +kernel
theorem dX1_addLine_80 : decode cX1_addLine 80 = .ok (.getfield 18, 3) := by decide +kernel
theorem dX1_addLine_83 : decode cX1_addLine 83 = .ok (.aload_n 0, 1) := by decide +kernel
theorem dX1_addLine_84 : decode cX1_addLine 84 = .ok (.getfield 36, 3) := by decide +kernel
theorem dX1_addLine_87 : decode cX1_addLine 87 = .ok (.iload_n 1, 1) := by decide +kernel
theorem dX1_addLine_88 : decode cX1_addLine 88 = .ok (.invokestatic 32, 3) := by decide +kernel
theorem dX1_addLine_91 : decode cX1_addLine 91 = .ok (.aload_n 0, 1) := by decide +kernel
theorem dX1_addLine_92 : decode cX1_addLine 92 = .ok (.getfield 21, 3) := by decide +kernel
theorem dX1_addLine_95 : decode cX1_addLine 95 = .ok (.aload_n 0, 1) := by decide +kernel
theorem dX1_addLine_96 : decode cX1_addLine 96 = .ok (.getfield 36, 3) := by decide +kernel
theorem dX1_addLine_99 : decode cX1_addLine 99 = .ok (.iload 4, 2) := by decide +kernel
theorem dX1_addLine_101 : decode cX1_addLine 101 = .ok (.invokestatic 32, 3) := by decide +kernel
theorem dX1_addLine_104 : decode cX1_addLine 104 = .ok (.aload_n 0, 1) := by decide +kernel
theorem dX1_addLine_105 : decode cX1_addLine 105 = .ok (.getfield 24, 3) := by decide +kernel
theorem dX1_addLine_108 : decode cX1_addLine 108 = .ok (.aload_n 0, 1) := by decide +kernel
theorem dX1_addLine_109 : decode cX1_addLine 109 = .ok (.getfield 36, 3) := by decide +kernel
theorem dX1_addLine_112 : decode cX1_addLine 112 = .ok (.lload_n 2, 1) := by decide +kernel
theorem dX1_addLine_113 : decode cX1_addLine 113 = .ok (.invokestatic 47, 3) := by decide +kernel
theorem dX1_addLine_116 : decode cX1_addLine 116 = .ok (.aload_n 0, 1) := by decide +kernel
theorem dX1_addLine_117 : decode cX1_addLine 117 = .ok (.dup, 1) := by decide +kernel
theorem dX1_addLine_118 : decode cX1_addLine 118 = .ok (.getfield 36, 3) := by decide +kernel
theorem dX1_addLine_121 : decode cX1_addLine 121 = .ok (.iconst 1, 1) := by decide +kernel
theorem dX1_addLine_122 : decode cX1_addLine 122 = .ok (.iadd, 1) := by decide +kernel
theorem dX1_addLine_123 : decode cX1_addLine 123 = .ok (.putfield 36, 3) := by decide +kernel
theorem dX1_addLine_126 : decode cX1_addLine 126 = .ok (.aload_n 0, 1) := by decide +kernel
theorem dX1_addLine_127 : decode cX1_addLine 127 = .ok (.getfield 36, 3) := by decide +kernel
theorem dX1_addLine_130 : decode cX1_addLine 130 = .ok (.iconst 1, 1) := by decide +kernel
theorem dX1_addLine_131 : decode cX1_addLine 131 = .ok (.isub, 1) := by decide +kernel
theorem dX1_addLine_132 : decode cX1_addLine 132 = .ok (.ireturn, 1) := by decide +kernel
set_option maxRecDepth 20000 in
theorem ggX1_letterFrom_X5_at : GoodIn wsX1_letterFrom wsX5_at := goodIn_r _ [4] (by decide +kernel) (by decide +kernel)
set_option maxRecDepth 20000 in
theorem gX1_letterFrom_X5_at_n39 : GoodIn wsX1_letterFrom (wsX5_at) := ggX1_letterFrom_X5_at
set_option maxRecDepth 20000 in
theorem ggX1_letterFrom_X5_bitOf : GoodIn wsX1_letterFrom wsX5_bitOf := goodIn_r _ [6] (by decide +kernel) (by decide +kernel)
set_option maxRecDepth 20000 in
theorem gX1_letterFrom_X5_bitOf_n50 : GoodIn wsX1_letterFrom (wsX5_bitOf) := ggX1_letterFrom_X5_bitOf
theorem dX1_letterFrom_0 : decode cX1_letterFrom 0 = .ok (.iload_n 2, 1) := by decide +kernel
theorem dX1_letterFrom_1 : decode cX1_letterFrom 1 = .ok (.bipush 8, 2) := by decide +kernel
theorem dX1_letterFrom_3 : decode cX1_letterFrom 3 = .ok (.if_icmp .ge 21, 3) := by decide +kernel
theorem dX1_letterFrom_6 : decode cX1_letterFrom 6 = .ok (.aload_n 0, 1) := by decide +kernel
theorem dX1_letterFrom_7 : decode cX1_letterFrom 7 = .ok (.getfield 15, 3) := by decide +kernel
theorem dX1_letterFrom_10 : decode cX1_letterFrom 10 = .ok (.iload_n 1, 1) := by decide +kernel
theorem dX1_letterFrom_11 : decode cX1_letterFrom 11 = .ok (.invokestatic 39, 3) := by decide +kernel
theorem dX1_letterFrom_14 : decode cX1_letterFrom 14 = .ok (.i2l, 1) := by decide +kernel
theorem dX1_letterFrom_15 : decode cX1_letterFrom 15 = .ok (.iload_n 2, 1) := by decide +kernel
theorem dX1_letterFrom_16 : decode cX1_letterFrom 16 = .ok (.iconst 0, 1) := by decide +kernel
theorem dX1_letterFrom_17 : decode cX1_letterFrom 17 = .ok (.invokestatic 50, 3) := by decide +kernel
theorem dX1_letterFrom_20 : decode cX1_letterFrom 20 = .ok (.lshl, 1) := by decide +kernel
theorem dX1_letterFrom_21 : decode cX1_letterFrom 21 = .ok (.goto 4, 3) := by decide +kernel
theorem dX1_letterFrom_24 : decode cX1_letterFrom 24 = .ok (.lconst 0, 1) := by decide +kernel
theorem dX1_letterFrom_25 : decode cX1_letterFrom 25 = .ok (.lreturn, 1) := by decide +kernel
theorem dX1_placed_0 : decode cX1_placed 0 = .ok (.iload_n 1, 1) := by decide +kernel
theorem dX1_placed_1 : decode cX1_placed 1 = .ok (.ifCond .lt 25, 3) := by decide +kernel
theorem dX1_placed_4 : decode cX1_placed 4 = .ok (.iload_n 1, 1) := by decide +kernel
theorem dX1_placed_5 : decode cX1_placed 5 = .ok (.aload_n 0, 1) := by decide +kernel
theorem dX1_placed_6 : decode cX1_placed 6 = .ok (.getfield 24, 3) := by decide +kernel
theorem dX1_placed_9 : decode cX1_placed 9 = .ok (.arraylength, 1) := by decide +kernel
theorem dX1_placed_10 : decode cX1_placed 10 = .ok (.if_icmp .ge 16, 3) := by decide +kernel
theorem dX1_placed_13 : decode cX1_placed 13 = .ok (.aload_n 0, 1) := by decide +kernel
theorem dX1_placed_14 : decode cX1_placed 14 = .ok (.getfield 24, 3) := by decide +kernel
theorem dX1_placed_17 : decode cX1_placed 17 = .ok (.iload_n 1, 1) := by decide +kernel
theorem dX1_placed_18 : decode cX1_placed 18 = .ok (.laload, 1) := by decide +kernel
theorem dX1_placed_19 : decode cX1_placed 19 = .ok (.iconst 5, 1) := by decide +kernel
theorem dX1_placed_20 : decode cX1_placed 20 = .ok (.iload_n 2, 1) := by decide +kernel
theorem dX1_placed_21 : decode cX1_placed 21 = .ok (.imul, 1) := by decide +kernel
theorem dX1_placed_22 : decode cX1_placed 22 = .ok (.lshl, 1) := by decide +kernel
theorem dX1_placed_23 : decode cX1_placed 23 = .ok (.goto 4, 3) := by decide +kernel
theorem dX1_placed_26 : decode cX1_placed 26 = .ok (.lconst 0, 1) := by decide +kernel
theorem dX1_placed_27 : decode cX1_placed 27 = .ok (.lreturn, 1) := by decide +kernel
theorem dX2_init_0 : decode cX2_init 0 = .ok (.aload_n 0, 1) := by decide +kernel
theorem dX2_init_1 : decode cX2_init 1 = .ok (.invokespecial 3, 3) := by decide +kernel
theorem dX2_init_4 : decode cX2_init 4 = .ok (.aload_n 0, 1) := by decide +kernel
theorem dX2_init_5 : decode cX2_init 5 = .ok (.sipush 256, 3) := by decide +kernel
theorem dX2_init_8 : decode cX2_init 8 = .ok (.newarray .int, 2) := by decide +kernel
theorem dX2_init_10 : decode cX2_init 10 = .ok (.putfield 9, 3) := by decide +kernel
theorem dX2_init_13 : decode cX2_init 13 = .ok (.aload_n 0, 1) := by decide +kernel
theorem dX2_init_14 : decode cX2_init 14 = .ok (.sipush 256, 3) := by decide +kernel
theorem dX2_init_17 : decode cX2_init 17 = .ok (.newarray .int, 2) := by decide +kernel
theorem dX2_init_19 : decode cX2_init 19 = .ok (.putfield 15, 3) := by decide +kernel
theorem dX2_init_22 : decode cX2_init 22 = .ok (.aload_n 0, 1) := by decide +kernel
theorem dX2_init_23 : decode cX2_init 23 = .ok (.bipush 8, 2) := by decide +kernel
theorem dX2_init_25 : decode cX2_init 25 = .ok (.newarray .int, 2) := by decide +kernel
theorem dX2_init_27 : decode cX2_init 27 = .ok (.putfield 18, 3) := by decide +kernel
theorem dX2_init_30 : decode cX2_init 30 = .ok (.aload_n 0, 1) := by decide +kernel
theorem dX2_init_31 : decode cX2_init 31 = .ok (.iconst (-1), 1) := by decide +kernel
theorem dX2_init_32 : decode cX2_init 32 = .ok (.putfield 21, 3) := by decide +kernel
theorem dX2_init_35 : decode cX2_init 35 = .ok (.return_, 1) := by decide +kernel
theorem dX2_giveUp_0 : decode cX2_giveUp 0 = .ok (.aload_n 0, 1) := by decide +kernel
theorem dX2_giveUp_1 : decode cX2_giveUp 1 = .ok (.iconst (-1), 1) := by decide +kernel
theorem dX2_giveUp_2 : decode cX2_giveUp 2 = .ok (.putfield 21, 3) := by decide +kernel
theorem dX2_giveUp_5 : decode cX2_giveUp 5 = .ok (.return_, 1) := by decide +kernel
set_option maxRecDepth 20000 in
theorem ggX2_begin_X5_setIn : GoodIn wsX2_begin wsX5_setIn := goodIn_r _ [8] (by decide +kernel) (by decide +kernel)
set_option maxRecDepth 20000 in
theorem gX2_begin_X5_setIn_n38 : GoodIn wsX2_begin (wsX5_setIn) := ggX2_begin_X5_setIn
set_option maxRecDepth 20000 in
theorem ggX2_begin_X2_countDots : GoodIn wsX2_begin wsX2_countDots := goodIn_r _ [13, 14, 1, 2, 15, 16, 17, 18, 19, 20, 21, 6, 7, 8, 22, 23, 24, 25, 26, 27, 28, 29, 30, 31] (by decide +kernel) (by decide +kernel)
set_option maxRecDepth 20000 in
theorem gX2_begin_X2_countDots : GoodIn wsX2_begin (wsV RX2 42 RX2 yX2_countDots wsX2_countDots) := goodIn_app (goodIn_of _ (by decide +kernel)) ggX2_begin_X2_countDots
theorem dX2_begin_0 : decode cX2_begin 0 = .ok (.aload_n 0, 1) := by decide +kernel
theorem dX2_begin_1 : decode cX2_begin 1 = .ok (.lload_n 1, 1) := by decide +kernel
theorem dX2_begin_2 : decode cX2_begin 2 = .ok (.putfield 25, 3) := by decide +kernel
theorem dX2_begin_5 : decode cX2_begin 5 = .ok (.aload_n 0, 1) := by decide +kernel
theorem dX2_begin_6 : decode cX2_begin 6 = .ok (.lload_n 3, 1) := by decide +kernel
theorem dX2_begin_7 : decode cX2_begin 7 = .ok (.putfield 29, 3) := by decide +kernel
theorem dX2_begin_10 : decode cX2_begin 10 = .ok (.aload_n 0, 1) := by decide +kernel
theorem dX2_begin_11 : decode cX2_begin 11 = .ok (.iload 5, 2) := by decide +kernel
theorem dX2_begin_13 : decode cX2_begin 13 = .ok (.putfield 32, 3) := by decide +kernel
theorem dX2_begin_16 : decode cX2_begin 16 = .ok (.aload_n 0, 1) := by decide +kernel
theorem dX2_begin_17 : decode cX2_begin 17 = .ok (.iconst 0, 1) := by decide +kernel
theorem dX2_begin_18 : decode cX2_begin 18 = .ok (.putfield 35, 3) := by decide +kernel
theorem dX2_begin_21 : decode cX2_begin 21 = .ok (.iconst 0, 1) := by decide +kernel
theorem dX2_begin_22 : decode cX2_begin 22 = .ok (.istore 6, 2) := by decide +kernel
theorem dX2_begin_24 : decode cX2_begin 24 = .ok (.iload 6, 2) := by decide +kernel
theorem dX2_begin_26 : decode cX2_begin 26 = .ok (.bipush 8, 2) := by decide +kernel
theorem dX2_begin_28 : decode cX2_begin 28 = .ok (.if_icmp .ge 37, 3) := by decide +kernel
theorem dX2_begin_31 : decode cX2_begin 31 = .ok (.aload_n 0, 1) := by decide +kernel
theorem dX2_begin_32 : decode cX2_begin 32 = .ok (.dup, 1) := by decide +kernel
theorem dX2_begin_33 : decode cX2_begin 33 = .ok (.getfield 35, 3) := by decide +kernel
theorem dX2_begin_36 : decode cX2_begin 36 = .ok (.lload_n 1, 1) := by decide +kernel
theorem dX2_begin_37 : decode cX2_begin 37 = .ok (.lload_n 3, 1) := by decide +kernel
theorem dX2_begin_38 : decode cX2_begin 38 = .ok (.lxor, 1) := by decide +kernel
theorem dX2_begin_39 : decode cX2_begin 39 = .ok (.iload 6, 2) := by decide +kernel
theorem dX2_begin_41 : decode cX2_begin 41 = .ok (.invokestatic 38, 3) := by decide +kernel
theorem dX2_begin_44 : decode cX2_begin 44 = .ok (.ifCond .ne 7, 3) := by decide +kernel
theorem dX2_begin_47 : decode cX2_begin 47 = .ok (.iconst 0, 1) := by decide +kernel
theorem dX2_begin_48 : decode cX2_begin 48 = .ok (.goto 7, 3) := by decide +kernel
theorem dX2_begin_51 : decode cX2_begin 51 = .ok (.iconst 1, 1) := by decide +kernel
theorem dX2_begin_52 : decode cX2_begin 52 = .ok (.iload 6, 2) := by decide +kernel
theorem dX2_begin_54 : decode cX2_begin 54 = .ok (.ishl, 1) := by decide +kernel
theorem dX2_begin_55 : decode cX2_begin 55 = .ok (.ior, 1) := by decide +kernel
theorem dX2_begin_56 : decode cX2_begin 56 = .ok (.putfield 35, 3) := by decide +kernel
theorem dX2_begin_59 : decode cX2_begin 59 = .ok (.iinc 6 1, 3) := by decide +kernel
theorem dX2_begin_62 : decode cX2_begin 62 = .ok (.goto (-38), 3) := by decide +kernel
theorem dX2_begin_65 : decode cX2_begin 65 = .ok (.iconst 0, 1) := by decide +kernel
theorem dX2_begin_66 : decode cX2_begin 66 = .ok (.istore 6, 2) := by decide +kernel
theorem dX2_begin_68 : decode cX2_begin 68 = .ok (.iload 6, 2) := by decide +kernel
theorem dX2_begin_70 : decode cX2_begin 70 = .ok (.aload_n 0, 1) := by decide +kernel
theorem dX2_begin_71 : decode cX2_begin 71 = .ok (.getfield 9, 3) := by decide +kernel
theorem dX2_begin_74 : decode cX2_begin 74 = .ok (.arraylength, 1) := by decide +kernel
theorem dX2_begin_75 : decode cX2_begin 75 = .ok (.if_icmp .ge 17, 3) := by decide +kernel
theorem dX2_begin_78 : decode cX2_begin 78 = .ok (.aload_n 0, 1) := by decide +kernel
theorem dX2_begin_79 : decode cX2_begin 79 = .ok (.getfield 9, 3) := by decide +kernel
theorem dX2_begin_82 : decode cX2_begin 82 = .ok (.iload 6, 2) := by decide +kernel
theorem dX2_begin_84 : decode cX2_begin 84 = .ok (.iconst 0, 1) := by decide +kernel
theorem dX2_begin_85 : decode cX2_begin 85 = .ok (.iastore, 1) := by decide +kernel
theorem dX2_begin_86 : decode cX2_begin 86 = .ok (.iinc 6 1, 3) := by decide +kernel
theorem dX2_begin_89 : decode cX2_begin 89 = .ok (.goto (-21), 3) := by decide +kernel
theorem dX2_begin_92 : decode cX2_begin 92 = .ok (.aload_n 0, 1) := by decide +kernel
theorem dX2_begin_93 : decode cX2_begin 93 = .ok (.invokevirtual 42, 3) := by decide +kernel
theorem dX2_begin_96 : decode cX2_begin 96 = .ok (.return_, 1) := by decide +kernel
set_option maxRecDepth 20000 in
theorem ggX2_countDots_J6_bitCount_0f7a4 : GoodIn wsX2_countDots wsJ6_bitCount_0f7a4 := goodIn_r _ [7, 8, 9, 10] (by decide +kernel) (by decide +kernel)
set_option maxRecDepth 20000 in
theorem gX2_countDots_J6_bitCount_0f7a4 : GoodIn wsX2_countDots (va_wsS RX2 45 yJ6_bitCount_0f7a4 wsJ6_bitCount_0f7a4) := goodIn_app (goodIn_of _ (by decide +kernel)) ggX2_countDots_J6_bitCount_0f7a4
set_option maxRecDepth 20000 in
theorem ggX2_countDots_X5_setIn : GoodIn wsX2_countDots wsX5_setIn := goodIn_r _ [13] (by decide +kernel) (by decide +kernel)
set_option maxRecDepth 20000 in
theorem gX2_countDots_X5_setIn_n38 : GoodIn wsX2_countDots (wsX5_setIn) := ggX2_countDots_X5_setIn
set_option maxRecDepth 20000 in
theorem ggX2_countDots_X5_at : GoodIn wsX2_countDots wsX5_at := goodIn_r _ [15] (by decide +kernel) (by decide +kernel)
set_option maxRecDepth 20000 in
theorem gX2_countDots_X5_at_n51 : GoodIn wsX2_countDots (wsX5_at) := ggX2_countDots_X5_at
theorem dX2_countDots_0 : decode cX2_countDots 0 = .ok (.iconst 1, 1) := by decide +kernel
theorem dX2_countDots_1 : decode cX2_countDots 1 = .ok (.istore_n 1, 1) := by decide +kernel
theorem dX2_countDots_2 : decode cX2_countDots 2 = .ok (.iload_n 1, 1) := by decide +kernel
theorem dX2_countDots_3 : decode cX2_countDots 3 = .ok (.aload_n 0, 1) := by decide +kernel
theorem dX2_countDots_4 : decode cX2_countDots 4 = .ok (.getfield 15, 3) := by decide +kernel
theorem dX2_countDots_7 : decode cX2_countDots 7 = .ok (.arraylength, 1) := by decide +kernel
theorem dX2_countDots_8 : decode cX2_countDots 8 = .ok (.if_icmp .ge 56, 3) := by decide +kernel
theorem dX2_countDots_11 : decode cX2_countDots 11 = .ok (.iload_n 1, 1) := by decide +kernel
theorem dX2_countDots_12 : decode cX2_countDots 12 = .ok (.iload_n 1, 1) := by decide +kernel
theorem dX2_countDots_13 : decode cX2_countDots 13 = .ok (.ineg, 1) := by decide +kernel
theorem dX2_countDots_14 : decode cX2_countDots 14 = .ok (.iand, 1) := by decide +kernel
theorem dX2_countDots_15 : decode cX2_countDots 15 = .ok (.iconst 1, 1) := by decide +kernel
theorem dX2_countDots_16 : decode cX2_countDots 16 = .ok (.isub, 1) := by decide +kernel
theorem dX2_countDots_17 : decode cX2_countDots 17 = .ok (.invokestatic 45, 3) := by decide +kernel
theorem dX2_countDots_20 : decode cX2_countDots 20 = .ok (.istore_n 2, 1) := by decide +kernel
theorem dX2_countDots_21 : decode cX2_countDots 21 = .ok (.aload_n 0, 1) := by decide +kernel
theorem dX2_countDots_22 : decode cX2_countDots 22 = .ok (.getfield 25, 3) := by decide +kernel
theorem dX2_countDots_25 : decode cX2_countDots 25 = .ok (.aload_n 0, 1) := by decide +kernel
theorem dX2_countDots_26 : decode cX2_countDots 26 = .ok (.getfield 29, 3) := by decide +kernel
theorem dX2_countDots_29 : decode cX2_countDots 29 = .ok (.lxor, 1) := by decide +kernel
theorem dX2_countDots_30 : decode cX2_countDots 30 = .ok (.iload_n 2, 1) := by decide +kernel
theorem dX2_countDots_31 : decode cX2_countDots 31 = .ok (.invokestatic 38, 3) := by decide +kernel
theorem dX2_countDots_34 : decode cX2_countDots 34 = .ok (.invokestatic 45, 3) := by decide +kernel
theorem dX2_countDots_37 : decode cX2_countDots 37 = .ok (.istore_n 3, 1) := by decide +kernel
theorem dX2_countDots_38 : decode cX2_countDots 38 = .ok (.aload_n 0, 1) := by decide +kernel
theorem dX2_countDots_39 : decode cX2_countDots 39 = .ok (.getfield 15, 3) := by decide +kernel
theorem dX2_countDots_42 : decode cX2_countDots 42 = .ok (.iload_n 1, 1) := by decide +kernel
theorem dX2_countDots_43 : decode cX2_countDots 43 = .ok (.aload_n 0, 1) := by decide +kernel
theorem dX2_countDots_44 : decode cX2_countDots 44 = .ok (.getfield 15, 3) := by decide +kernel
theorem dX2_countDots_47 : decode cX2_countDots 47 = .ok (.iload_n 1, 1) := by decide +kernel
theorem dX2_countDots_48 : decode cX2_countDots 48 = .ok (.iload_n 1, 1) := by decide +kernel
theorem dX2_countDots_49 : decode cX2_countDots 49 = .ok (.iconst 1, 1) := by decide +kernel
theorem dX2_countDots_50 : decode cX2_countDots 50 = .ok (.isub, 1) := by decide +kernel
theorem dX2_countDots_51 : decode cX2_countDots 51 = .ok (.iand, 1) := by decide +kernel
theorem dX2_countDots_52 : decode cX2_countDots 52 = .ok (.invokestatic 51, 3) := by decide +kernel
theorem dX2_countDots_55 : decode cX2_countDots 55 = .ok (.iload_n 3, 1) := by decide +kernel
theorem dX2_countDots_56 : decode cX2_countDots 56 = .ok (.iadd, 1) := by decide +kernel
theorem dX2_countDots_57 : decode cX2_countDots 57 = .ok (.iastore, 1) := by decide +kernel
theorem dX2_countDots_58 : decode cX2_countDots 58 = .ok (.iinc 1 1, 3) := by decide +kernel
theorem dX2_countDots_61 : decode cX2_countDots 61 = .ok (.goto (-59), 3) := by decide +kernel
theorem dX2_countDots_64 : decode cX2_countDots 64 = .ok (.return_, 1) := by decide +kernel
set_option maxRecDepth 20000 in
theorem ggX2_forbid_X5_setIn : GoodIn wsX2_forbid wsX5_setIn := goodIn_r _ [6] (by decide +kernel) (by decide +kernel)
set_option maxRecDepth 20000 in
theorem gX2_forbid_X5_setIn_n38 : GoodIn wsX2_forbid (wsX5_setIn) := ggX2_forbid_X5_setIn
set_option maxRecDepth 20000 in
theorem ggX2_forbid_X5_put : GoodIn wsX2_forbid wsX5_put := goodIn_r _ [8] (by decide +kernel) (by decide +kernel)
set_option maxRecDepth 20000 in
theorem gX2_forbid_X5_put_n55 : GoodIn wsX2_forbid (wsX5_put) := ggX2_forbid_X5_put
theorem dX2_forbid_0 : decode cX2_forbid 0 = .ok (.iconst 0, 1) := by decide +kernel
theorem dX2_forbid_1 : decode cX2_forbid 1 = .ok (.istore_n 3, 1) := by decide +kernel
theorem dX2_forbid_2 : decode cX2_forbid 2 = .ok (.iconst 0, 1) := by decide +kernel
theorem dX2_forbid_3 : decode cX2_forbid 3 = .ok (.istore 4, 2) := by decide +kernel
theorem dX2_forbid_5 : decode cX2_forbid 5 = .ok (.iload 4, 2) := by decide +kernel
theorem dX2_forbid_7 : decode cX2_forbid 7 = .ok (.bipush 8, 2) := by decide +kernel
theorem dX2_forbid_9 : decode cX2_forbid 9 = .ok (.if_icmp .ge 53, 3) := by decide +kernel
theorem dX2_forbid_12 : decode cX2_forbid 12 = .ok (.lload_n 1, 1) := by decide +kernel
theorem dX2_forbid_13 : decode cX2_forbid 13 = .ok (.iload 4, 2) := by decide +kernel
theorem dX2_forbid_15 : decode cX2_forbid 15 = .ok (.invokestatic 38, 3) := by decide +kernel
theorem dX2_forbid_18 : decode cX2_forbid 18 = .ok (.istore 5, 2) := by decide +kernel
theorem dX2_forbid_20 : decode cX2_forbid 20 = .ok (.iload 5, 2) := by decide +kernel
theorem dX2_forbid_22 : decode cX2_forbid 22 = .ok (.aload_n 0, 1) := by decide +kernel
theorem dX2_forbid_23 : decode cX2_forbid 23 = .ok (.getfield 25, 3) := by decide +kernel
theorem dX2_forbid_26 : decode cX2_forbid 26 = .ok (.iload 4, 2) := by decide +kernel
theorem dX2_forbid_28 : decode cX2_forbid 28 = .ok (.invokestatic 38, 3) := by decide +kernel
theorem dX2_forbid_31 : decode cX2_forbid 31 = .ok (.if_icmp .eq 25, 3) := by decide +kernel
theorem dX2_forbid_34 : decode cX2_forbid 34 = .ok (.iload 5, 2) := by decide +kernel
theorem dX2_forbid_36 : decode cX2_forbid 36 = .ok (.aload_n 0, 1) := by decide +kernel
theorem dX2_forbid_37 : decode cX2_forbid 37 = .ok (.getfield 29, 3) := by decide +kernel
theorem dX2_forbid_40 : decode cX2_forbid 40 = .ok (.iload 4, 2) := by decide +kernel
theorem dX2_forbid_42 : decode cX2_forbid 42 = .ok (.invokestatic 38, 3) := by decide +kernel
theorem dX2_forbid_45 : decode cX2_forbid 45 = .ok (.if_icmp .eq 4, 3) := by decide +kernel
theorem dX2_forbid_48 : decode cX2_forbid 48 = .ok (.return_, 1) := by decide +kernel
theorem dX2_forbid_49 : decode cX2_forbid 49 = .ok (.iload_n 3, 1) := by decide +kernel
theorem dX2_forbid_50 : decode cX2_forbid 50 = .ok (.iconst 1, 1) := by decide +kernel
theorem dX2_forbid_51 : decode cX2_forbid 51 = .ok (.iload 4, 2) := by decide +kernel
theorem dX2_forbid_53 : decode cX2_forbid 53 = .ok (.ishl, 1) := by decide +kernel
theorem dX2_forbid_54 : decode cX2_forbid 54 = .ok (.ior, 1) := by decide +kernel
theorem dX2_forbid_55 : decode cX2_forbid 55 = .ok (.istore_n 3, 1) := by decide +kernel
theorem dX2_forbid_56 : decode cX2_forbid 56 = .ok (.iinc 4 1, 3) := by decide +kernel
theorem dX2_forbid_59 : decode cX2_forbid 59 = .ok (.goto (-54), 3) := by decide +kernel
theorem dX2_forbid_62 : decode cX2_forbid 62 = .ok (.aload_n 0, 1) := by decide +kernel
theorem dX2_forbid_63 : decode cX2_forbid 63 = .ok (.getfield 9, 3) := by decide +kernel
theorem dX2_forbid_66 : decode cX2_forbid 66 = .ok (.iload_n 3, 1) := by decide +kernel
theorem dX2_forbid_67 : decode cX2_forbid 67 = .ok (.iconst (-1), 1) := by decide +kernel
theorem dX2_forbid_68 : decode cX2_forbid 68 = .ok (.invokestatic 55, 3) := by decide +kernel
theorem dX2_forbid_71 : decode cX2_forbid 71 = .ok (.return_, 1) := by decide +kernel
set_option maxRecDepth 20000 in
theorem ggX2_choose_X5_put : GoodIn wsX2_choose wsX5_put := goodIn_r _ [7] (by decide +kernel) (by decide +kernel)
set_option maxRecDepth 20000 in
theorem gX2_choose_X5_put_n55 : GoodIn wsX2_choose (wsX5_put) := ggX2_choose_X5_put
set_option maxRecDepth 20000 in
theorem ggX2_choose_X5_at : GoodIn wsX2_choose wsX5_at := goodIn_r _ [9] (by decide +kernel) (by decide +kernel)
set_option maxRecDepth 20000 in
theorem gX2_choose_X5_at_n51 : GoodIn wsX2_choose (wsX5_at) := ggX2_choose_X5_at
set_option maxRecDepth 20000 in
theorem ggX2_choose_X2_fewestFrom : GoodIn wsX2_choose wsX2_fewestFrom := goodIn_r _ [14, 2, 1, 8, 6, 9, 15, 16, 17, 13, 18, 19, 20, 25, 26, 27, 28, 29, 30, 31, 32] (by decide +kernel) (by decide +kernel)
set_option maxRecDepth 20000 in
theorem gX2_choose_X2_fewestFrom : GoodIn wsX2_choose (wsV RX2 59 RX2 yX2_fewestFrom wsX2_fewestFrom) := goodIn_app (goodIn_of _ (by decide +kernel)) ggX2_choose_X2_fewestFrom
set_option maxRecDepth 20000 in
theorem ggX2_choose_X2_smallestFrom : GoodIn wsX2_choose wsX2_smallestFrom := goodIn_r _ [24, 2, 1, 8, 6, 9, 15, 16, 17, 13, 18, 19, 20, 25, 26, 27, 28, 29, 30, 31, 32] (by decide +kernel) (by decide +kernel)
set_option maxRecDepth 20000 in
theorem gX2_choose_X2_smallestFrom : GoodIn wsX2_choose (wsV RX2 62 RX2 yX2_smallestFrom wsX2_smallestFrom) := goodIn_app (goodIn_of _ (by decide +kernel)) ggX2_choose_X2_smallestFrom
theorem dX2_choose_0 : decode cX2_choose 0 = .ok (.aload_n 0, 1) := by decide +kernel
theorem dX2_choose_1 : decode cX2_choose 1 = .ok (.getfield 9, 3) := by decide +kernel
theorem dX2_choose_4 : decode cX2_choose 4 = .ok (.aload_n 0, 1) := by decide +kernel
theorem dX2_choose_5 : decode cX2_choose 5 = .ok (.getfield 35, 3) := by decide +kernel
theorem dX2_choose_8 : decode cX2_choose 8 = .ok (.iconst 0, 1) := by decide +kernel
theorem dX2_choose_9 : decode cX2_choose 9 = .ok (.invokestatic 55, 3) := by decide +kernel
theorem dX2_choose_12 : decode cX2_choose 12 = .ok (.aload_n 0, 1) := by decide +kernel
theorem dX2_choose_13 : decode cX2_choose 13 = .ok (.getfield 35, 3) := by decide +kernel
theorem dX2_choose_16 : decode cX2_choose 16 = .ok (.iconst 1, 1) := by decide +kernel
theorem dX2_choose_17 : decode cX2_choose 17 = .ok (.isub, 1) := by decide +kernel
theorem dX2_choose_18 : decode cX2_choose 18 = .ok (.istore_n 1, 1) := by decide +kernel
theorem dX2_choose_19 : decode cX2_choose 19 = .ok (.iload_n 1, 1) := by decide +kernel
theorem dX2_choose_20 : decode cX2_choose 20 = .ok (.ifCond .lt 45, 3) := by decide +kernel
theorem dX2_choose_23 : decode cX2_choose 23 = .ok (.iload_n 1, 1) := by decide +kernel
theorem dX2_choose_24 : decode cX2_choose 24 = .ok (.aload_n 0, 1) := by decide +kernel
theorem dX2_choose_25 : decode cX2_choose 25 = .ok (.getfield 35, 3) := by decide +kernel
theorem dX2_choose_28 : decode cX2_choose 28 = .ok (.iconst (-1), 1) := by decide +kernel
theorem dX2_choose_29 : decode cX2_choose 29 = .ok (.ixor, 1) := by decide +kernel
theorem dX2_choose_30 : decode cX2_choose 30 = .ok (.iand, 1) := by decide +kernel
theorem dX2_choose_31 : decode cX2_choose 31 = .ok (.ifCond .ne 28, 3) := by decide +kernel
theorem dX2_choose_34 : decode cX2_choose 34 = .ok (.aload_n 0, 1) := by decide +kernel
theorem dX2_choose_35 : decode cX2_choose 35 = .ok (.getfield 9, 3) := by decide +kernel
theorem dX2_choose_38 : decode cX2_choose 38 = .ok (.iload_n 1, 1) := by decide +kernel
theorem dX2_choose_39 : decode cX2_choose 39 = .ok (.invokestatic 51, 3) := by decide +kernel
theorem dX2_choose_42 : decode cX2_choose 42 = .ok (.iconst (-1), 1) := by decide +kernel
theorem dX2_choose_43 : decode cX2_choose 43 = .ok (.if_icmp .eq 16, 3) := by decide +kernel
theorem dX2_choose_46 : decode cX2_choose 46 = .ok (.aload_n 0, 1) := by decide +kernel
theorem dX2_choose_47 : decode cX2_choose 47 = .ok (.getfield 9, 3) := by decide +kernel
theorem dX2_choose_50 : decode cX2_choose 50 = .ok (.iload_n 1, 1) := by decide +kernel
theorem dX2_choose_51 : decode cX2_choose 51 = .ok (.aload_n 0, 1) := by decide +kernel
theorem dX2_choose_52 : decode cX2_choose 52 = .ok (.iload_n 1, 1) := by decide +kernel
theorem dX2_choose_53 : decode cX2_choose 53 = .ok (.invokevirtual 59, 3) := by decide +kernel
theorem dX2_choose_56 : decode cX2_choose 56 = .ok (.invokestatic 55, 3) := by decide +kernel
theorem dX2_choose_59 : decode cX2_choose 59 = .ok (.iinc 1 (-1), 3) := by decide +kernel
theorem dX2_choose_62 : decode cX2_choose 62 = .ok (.goto (-43), 3) := by decide +kernel
theorem dX2_choose_65 : decode cX2_choose 65 = .ok (.aload_n 0, 1) := by decide +kernel
theorem dX2_choose_66 : decode cX2_choose 66 = .ok (.aload_n 0, 1) := by decide +kernel
theorem dX2_choose_67 : decode cX2_choose 67 = .ok (.getfield 9, 3) := by decide +kernel
theorem dX2_choose_70 : decode cX2_choose 70 = .ok (.iconst 0, 1) := by decide +kernel
theorem dX2_choose_71 : decode cX2_choose 71 = .ok (.invokestatic 51, 3) := by decide +kernel
theorem dX2_choose_74 : decode cX2_choose 74 = .ok (.putfield 21, 3) := by decide +kernel
theorem dX2_choose_77 : decode cX2_choose 77 = .ok (.iconst 0, 1) := by decide +kernel
theorem dX2_choose_78 : decode cX2_choose 78 = .ok (.istore_n 1, 1) := by decide +kernel
theorem dX2_choose_79 : decode cX2_choose 79 = .ok (.iconst 0, 1) := by decide +kernel
theorem dX2_choose_80 : decode cX2_choose 80 = .ok (.istore_n 2, 1) := by decide +kernel
theorem dX2_choose_81 : decode cX2_choose 81 = .ok (.iload_n 2, 1) := by decide +kernel
theorem dX2_choose_82 : decode cX2_choose 82 = .ok (.aload_n 0, 1) := by decide +kernel
theorem dX2_choose_83 : decode cX2_choose 83 = .ok (.getfield 21, 3) := by decide +kernel
theorem dX2_choose_86 : decode cX2_choose 86 = .ok (.if_icmp .ge 28, 3) := by decide +kernel
theorem dX2_choose_89 : decode cX2_choose 89 = .ok (.aload_n 0, 1) := by decide +kernel
theorem dX2_choose_90 : decode cX2_choose 90 = .ok (.iload_n 1, 1) := by decide +kernel
theorem dX2_choose_91 : decode cX2_choose 91 = .ok (.invokevirtual 62, 3) := by decide +kernel
theorem dX2_choose_94 : decode cX2_choose 94 = .ok (.istore_n 3, 1) := by decide +kernel
theorem dX2_choose_95 : decode cX2_choose 95 = .ok (.aload_n 0, 1) := by decide +kernel
theorem dX2_choose_96 : decode cX2_choose 96 = .ok (.getfield 18, 3) := by decide +kernel
theorem dX2_choose_99 : decode cX2_choose 99 = .ok (.iload_n 2, 1) := by decide +kernel
theorem dX2_choose_100 : decode cX2_choose 100 = .ok (.iload_n 3, 1) := by decide +kernel
theorem dX2_choose_101 : decode cX2_choose 101 = .ok (.invokestatic 55, 3) := by decide +kernel
theorem dX2_choose_104 : decode cX2_choose 104 = .ok (.iload_n 1, 1) := by decide +kernel
theorem dX2_choose_105 : decode cX2_choose 105 = .ok (.iload_n 3, 1) := by decide +kernel
theorem dX2_choose_106 : decode cX2_choose 106 = .ok (.ior, 1) := by decide +kernel
theorem dX2_choose_107 : decode cX2_choose 107 = .ok (.istore_n 1, 1) := by decide +kernel
theorem dX2_choose_108 : decode cX2_choose 108 = .ok (.iinc 2 1, 3) := by decide +kernel
theorem dX2_choose_111 : decode cX2_choose 111 = .ok (.goto (-30), 3) := by decide +kernel
theorem dX2_choose_114 : decode cX2_choose 114 = .ok (.return_, 1) := by decide +kernel
set_option maxRecDepth 20000 in
theorem ggX2_fewestFrom_X5_at : GoodIn wsX2_fewestFrom wsX5_at := goodIn_r _ [5] (by decide +kernel) (by decide +kernel)
set_option maxRecDepth 20000 in
theorem gX2_fewestFrom_X5_at_n51 : GoodIn wsX2_fewestFrom (wsX5_at) := ggX2_fewestFrom_X5_at
set_option maxRecDepth 20000 in
theorem ggX2_fewestFrom_X2_canBeOneStep : GoodIn wsX2_fewestFrom wsX2_canBeOneStep := goodIn_r _ [10, 11, 12, 13, 14, 15, 16, 17, 18, 19, 20] (by decide +kernel) (by decide +kernel)
set_option maxRecDepth 20000 in
theorem gX2_fewestFrom_X2_canBeOneStep : GoodIn wsX2_fewestFrom (wsV RX2 65 RX2 yX2_canBeOneStep wsX2_canBeOneStep) := goodIn_app (goodIn_of _ (by decide +kernel)) ggX2_fewestFrom_X2_canBeOneStep
theorem dX2_fewestFrom_0 : decode cX2_fewestFrom 0 = .ok (.aload_n 0, 1) := by decide +kernel
theorem dX2_fewestFrom_1 : decode cX2_fewestFrom 1 = .ok (.getfield 35, 3) := by decide +kernel
theorem dX2_fewestFrom_4 : decode cX2_fewestFrom 4 = .ok (.iload_n 1, 1) := by decide +kernel
theorem dX2_fewestFrom_5 : decode cX2_fewestFrom 5 = .ok (.iconst (-1), 1) := by decide +kernel
theorem dX2_fewestFrom_6 : decode cX2_fewestFrom 6 = .ok (.ixor, 1) := by decide +kernel
theorem dX2_fewestFrom_7 : decode cX2_fewestFrom 7 = .ok (.iand, 1) := by decide +kernel
theorem dX2_fewestFrom_8 : decode cX2_fewestFrom 8 = .ok (.istore_n 2, 1) := by decide +kernel
theorem dX2_fewestFrom_9 : decode cX2_fewestFrom 9 = .ok (.iconst (-1), 1) := by decide +kernel
theorem dX2_fewestFrom_10 : decode cX2_fewestFrom 10 = .ok (.istore_n 3, 1) := by decide +kernel
theorem dX2_fewestFrom_11 : decode cX2_fewestFrom 11 = .ok (.iload_n 2, 1) := by decide +kernel
theorem dX2_fewestFrom_12 : decode cX2_fewestFrom 12 = .ok (.istore 4, 2) := by decide +kernel
theorem dX2_fewestFrom_14 : decode cX2_fewestFrom 14 = .ok (.iload 4, 2) := by decide +kernel
end
section
theorem dX2_fewestFrom_16 : decode cX2_fewestFrom 16 = .ok (.ifCond .le 60, 3) := by decide +kernel
theorem dX2_fewestFrom_19 : decode cX2_fewestFrom 19 = .ok (.aload_n 0, 1) := by decide +kernel
theorem dX2_fewestFrom_20 : decode cX2_fewestFrom 20 = .ok (.getfield 9, 3) := by decide +kernel
theorem dX2_fewestFrom_23 : decode cX2_fewestFrom 23 = .ok (.iload_n 1, 1) := by decide +kernel
theorem dX2_fewestFrom_24 : decode cX2_fewestFrom 24 = .ok (.iload 4, 2) := by decide +kernel
theorem dX2_fewestFrom_26 : decode cX2_fewestFrom 26 = .ok (.ior, 1) := by decide +kernel
theorem dX2_fewestFrom_27 : decode cX2_fewestFrom 27 = .ok (.invokestatic 51, 3) := by decide +kernel
theorem dX2_fewestFrom_30 : decode cX2_fewestFrom 30 = .ok (.istore 5, 2) := by decide +kernel
theorem dX2_fewestFrom_32 : decode cX2_fewestFrom 32 = .ok (.iload 5, 2) := by decide +kernel
theorem dX2_fewestFrom_34 : decode cX2_fewestFrom 34 = .ok (.iconst (-1), 1) := by decide +kernel
theorem dX2_fewestFrom_35 : decode cX2_fewestFrom 35 = .ok (.if_icmp .eq 30, 3) := by decide +kernel
theorem dX2_fewestFrom_38 : decode cX2_fewestFrom 38 = .ok (.iload_n 3, 1) := by decide +kernel
theorem dX2_fewestFrom_39 : decode cX2_fewestFrom 39 = .ok (.iconst (-1), 1) := by decide +kernel
theorem dX2_fewestFrom_40 : decode cX2_fewestFrom 40 = .ok (.if_icmp .eq 11, 3) := by decide +kernel
theorem dX2_fewestFrom_43 : decode cX2_fewestFrom 43 = .ok (.iload 5, 2) := by decide +kernel
theorem dX2_fewestFrom_45 : decode cX2_fewestFrom 45 = .ok (.iconst 1, 1) := by decide +kernel
theorem dX2_fewestFrom_46 : decode cX2_fewestFrom 46 = .ok (.iadd, 1) := by decide +kernel
theorem dX2_fewestFrom_47 : decode cX2_fewestFrom 47 = .ok (.iload_n 3, 1) := by decide +kernel
theorem dX2_fewestFrom_48 : decode cX2_fewestFrom 48 = .ok (.if_icmp .ge 17, 3) := by decide +kernel
theorem dX2_fewestFrom_51 : decode cX2_fewestFrom 51 = .ok (.aload_n 0, 1) := by decide +kernel
theorem dX2_fewestFrom_52 : decode cX2_fewestFrom 52 = .ok (.iload 4, 2) := by decide +kernel
theorem dX2_fewestFrom_54 : decode cX2_fewestFrom 54 = .ok (.invokevirtual 65, 3) := by decide +kernel
theorem dX2_fewestFrom_57 : decode cX2_fewestFrom 57 = .ok (.ifCond .eq 8, 3) := by decide +kernel
theorem dX2_fewestFrom_60 : decode cX2_fewestFrom 60 = .ok (.iload 5, 2) := by decide +kernel
theorem dX2_fewestFrom_62 : decode cX2_fewestFrom 62 = .ok (.iconst 1, 1) := by decide +kernel
theorem dX2_fewestFrom_63 : decode cX2_fewestFrom 63 = .ok (.iadd, 1) := by decide +kernel
theorem dX2_fewestFrom_64 : decode cX2_fewestFrom 64 = .ok (.istore_n 3, 1) := by decide +kernel
theorem dX2_fewestFrom_65 : decode cX2_fewestFrom 65 = .ok (.iload 4, 2) := by decide +kernel
theorem dX2_fewestFrom_67 : decode cX2_fewestFrom 67 = .ok (.iconst 1, 1) := by decide +kernel
theorem dX2_fewestFrom_68 : decode cX2_fewestFrom 68 = .ok (.isub, 1) := by decide +kernel
theorem dX2_fewestFrom_69 : decode cX2_fewestFrom 69 = .ok (.iload_n 2, 1) := by decide +kernel
theorem dX2_fewestFrom_70 : decode cX2_fewestFrom 70 = .ok (.iand, 1) := by decide +kernel
theorem dX2_fewestFrom_71 : decode cX2_fewestFrom 71 = .ok (.istore 4, 2) := by decide +kernel
theorem dX2_fewestFrom_73 : decode cX2_fewestFrom 73 = .ok (.goto (-59), 3) := by decide +kernel
theorem dX2_fewestFrom_76 : decode cX2_fewestFrom 76 = .ok (.iload_n 3, 1) := by decide +kernel
theorem dX2_fewestFrom_77 : decode cX2_fewestFrom 77 = .ok (.ireturn, 1) := by decide +kernel
set_option maxRecDepth 20000 in
theorem ggX2_smallestFrom_X5_at : GoodIn wsX2_smallestFrom wsX5_at := goodIn_r _ [5] (by decide +kernel) (by decide +kernel)
set_option maxRecDepth 20000 in
theorem gX2_smallestFrom_X5_at_n51 : GoodIn wsX2_smallestFrom (wsX5_at) := ggX2_smallestFrom_X5_at
set_option maxRecDepth 20000 in
theorem ggX2_smallestFrom_X2_canBeOneStep : GoodIn wsX2_smallestFrom wsX2_canBeOneStep := goodIn_r _ [10, 11, 12, 13, 14, 15, 16, 17, 18, 19, 20] (by decide +kernel) (by decide +kernel)
set_option maxRecDepth 20000 in
theorem gX2_smallestFrom_X2_canBeOneStep : GoodIn wsX2_smallestFrom (wsV RX2 65 RX2 yX2_canBeOneStep wsX2_canBeOneStep) := goodIn_app (goodIn_of _ (by decide +kernel)) ggX2_smallestFrom_X2_canBeOneStep
theorem dX2_smallestFrom_0 : decode cX2_smallestFrom 0 = .ok (.aload_n 0, 1) := by decide +kernel
theorem dX2_smallestFrom_1 : decode cX2_smallestFrom 1 = .ok (.getfield 35, 3) := by decide +kernel
theorem dX2_smallestFrom_4 : decode cX2_smallestFrom 4 = .ok (.iload_n 1, 1) := by decide +kernel
theorem dX2_smallestFrom_5 : decode cX2_smallestFrom 5 = .ok (.iconst (-1), 1) := by decide +kernel
theorem dX2_smallestFrom_6 : decode cX2_smallestFrom 6 = .ok (.ixor, 1) := by decide +kernel
theorem dX2_smallestFrom_7 : decode cX2_smallestFrom 7 = .ok (.iand, 1) := by decide +kernel
theorem dX2_smallestFrom_8 : decode cX2_smallestFrom 8 = .ok (.istore_n 2, 1) := by decide +kernel
theorem dX2_smallestFrom_9 : decode cX2_smallestFrom 9 = .ok (.aload_n 0, 1) := by decide +kernel
theorem dX2_smallestFrom_10 : decode cX2_smallestFrom 10 = .ok (.getfield 9, 3) := by decide +kernel
theorem dX2_smallestFrom_13 : decode cX2_smallestFrom 13 = .ok (.iload_n 1, 1) := by decide +kernel
theorem dX2_smallestFrom_14 : decode cX2_smallestFrom 14 = .ok (.invokestatic 51, 3) := by decide +kernel
theorem dX2_smallestFrom_17 : decode cX2_smallestFrom 17 = .ok (.iconst 1, 1) := by decide +kernel
theorem dX2_smallestFrom_18 : decode cX2_smallestFrom 18 = .ok (.isub, 1) := by decide +kernel
theorem dX2_smallestFrom_19 : decode cX2_smallestFrom 19 = .ok (.istore_n 3, 1) := by decide +kernel
theorem dX2_smallestFrom_20 : decode cX2_smallestFrom 20 = .ok (.iconst 1, 1) := by decide +kernel
theorem dX2_smallestFrom_21 : decode cX2_smallestFrom 21 = .ok (.istore 4, 2) := by decide +kernel
theorem dX2_smallestFrom_23 : decode cX2_smallestFrom 23 = .ok (.iload 4, 2) := by decide +kernel
theorem dX2_smallestFrom_25 : decode cX2_smallestFrom 25 = .ok (.iload_n 2, 1) := by decide +kernel
theorem dX2_smallestFrom_26 : decode cX2_smallestFrom 26 = .ok (.if_icmp .gt 45, 3) := by decide +kernel
theorem dX2_smallestFrom_29 : decode cX2_smallestFrom 29 = .ok (.iload 4, 2) := by decide +kernel
theorem dX2_smallestFrom_31 : decode cX2_smallestFrom 31 = .ok (.iload_n 2, 1) := by decide +kernel
theorem dX2_smallestFrom_32 : decode cX2_smallestFrom 32 = .ok (.iconst (-1), 1) := by decide +kernel
theorem dX2_smallestFrom_33 : decode cX2_smallestFrom 33 = .ok (.ixor, 1) := by decide +kernel
theorem dX2_smallestFrom_34 : decode cX2_smallestFrom 34 = .ok (.iand, 1) := by decide +kernel
theorem dX2_smallestFrom_35 : decode cX2_smallestFrom 35 = .ok (.ifCond .ne 30, 3) := by decide +kernel
theorem dX2_smallestFrom_38 : decode cX2_smallestFrom 38 = .ok (.aload_n 0, 1) := by decide +kernel
theorem dX2_smallestFrom_39 : decode cX2_smallestFrom 39 = .ok (.getfield 9, 3) := by decide +kernel
theorem dX2_smallestFrom_42 : decode cX2_smallestFrom 42 = .ok (.iload_n 1, 1) := by decide +kernel
theorem dX2_smallestFrom_43 : decode cX2_smallestFrom 43 = .ok (.iload 4, 2) := by decide +kernel
theorem dX2_smallestFrom_45 : decode cX2_smallestFrom 45 = .ok (.ior, 1) := by decide +kernel
theorem dX2_smallestFrom_46 : decode cX2_smallestFrom 46 = .ok (.invokestatic 51, 3) := by decide +kernel
theorem dX2_smallestFrom_49 : decode cX2_smallestFrom 49 = .ok (.iload_n 3, 1) := by decide +kernel
theorem dX2_smallestFrom_50 : decode cX2_smallestFrom 50 = .ok (.if_icmp .ne 15, 3) := by decide +kernel
theorem dX2_smallestFrom_53 : decode cX2_smallestFrom 53 = .ok (.aload_n 0, 1) := by decide +kernel
theorem dX2_smallestFrom_54 : decode cX2_smallestFrom 54 = .ok (.iload 4, 2) := by decide +kernel
theorem dX2_smallestFrom_56 : decode cX2_smallestFrom 56 = .ok (.invokevirtual 65, 3) := by decide +kernel
theorem dX2_smallestFrom_59 : decode cX2_smallestFrom 59 = .ok (.ifCond .eq 6, 3) := by decide +kernel
theorem dX2_smallestFrom_62 : decode cX2_smallestFrom 62 = .ok (.iload 4, 2) := by decide +kernel
theorem dX2_smallestFrom_64 : decode cX2_smallestFrom 64 = .ok (.ireturn, 1) := by decide +kernel
theorem dX2_smallestFrom_65 : decode cX2_smallestFrom 65 = .ok (.iinc 4 1, 3) := by decide +kernel
theorem dX2_smallestFrom_68 : decode cX2_smallestFrom 68 = .ok (.goto (-45), 3) := by decide +kernel
theorem dX2_smallestFrom_71 : decode cX2_smallestFrom 71 = .ok (.iconst 0, 1) := by decide +kernel
theorem dX2_smallestFrom_72 : decode cX2_smallestFrom 72 = .ok (.ireturn, 1) := by decide +kernel
theorem dX2_canBeOneStep_0 : decode cX2_canBeOneStep 0 = .ok (.iload_n 1, 1) := by decide +kernel
theorem dX2_canBeOneStep_1 : decode cX2_canBeOneStep 1 = .ok (.iload_n 1, 1) := by decide +kernel
theorem dX2_canBeOneStep_2 : decode cX2_canBeOneStep 2 = .ok (.iconst 1, 1) := by decide +kernel
theorem dX2_canBeOneStep_3 : decode cX2_canBeOneStep 3 = .ok (.isub, 1) := by decide +kernel
theorem dX2_canBeOneStep_4 : decode cX2_canBeOneStep 4 = .ok (.iand, 1) := by decide +kernel
theorem dX2_canBeOneStep_5 : decode cX2_canBeOneStep 5 = .ok (.ifCond .ne 7, 3) := by decide +kernel
theorem dX2_canBeOneStep_8 : decode cX2_canBeOneStep 8 = .ok (.iconst 1, 1) := by decide +kernel
theorem dX2_canBeOneStep_9 : decode cX2_canBeOneStep 9 = .ok (.goto 4, 3) := by decide +kernel
theorem dX2_canBeOneStep_12 : decode cX2_canBeOneStep 12 = .ok (.iconst 0, 1) := by decide +kernel
theorem dX2_canBeOneStep_13 : decode cX2_canBeOneStep 13 = .ok (.istore_n 2, 1) := by decide +kernel
theorem dX2_canBeOneStep_14 : decode cX2_canBeOneStep 14 = .ok (.iload_n 2, 1) := by decide +kernel
theorem dX2_canBeOneStep_15 : decode cX2_canBeOneStep 15 = .ok (.ifCond .ne 29, 3) := by decide +kernel
theorem dX2_canBeOneStep_18 : decode cX2_canBeOneStep 18 = .ok (.iload_n 1, 1) := by decide +kernel
theorem dX2_canBeOneStep_19 : decode cX2_canBeOneStep 19 = .ok (.ifCond .le 29, 3) := by decide +kernel
theorem dX2_canBeOneStep_22 : decode cX2_canBeOneStep 22 = .ok (.iload_n 1, 1) := by decide +kernel
theorem dX2_canBeOneStep_23 : decode cX2_canBeOneStep 23 = .ok (.aload_n 0, 1) := by decide +kernel
theorem dX2_canBeOneStep_24 : decode cX2_canBeOneStep 24 = .ok (.getfield 15, 3) := by decide +kernel
theorem dX2_canBeOneStep_27 : decode cX2_canBeOneStep 27 = .ok (.arraylength, 1) := by decide +kernel
theorem dX2_canBeOneStep_28 : decode cX2_canBeOneStep 28 = .ok (.if_icmp .ge 20, 3) := by decide +kernel
theorem dX2_canBeOneStep_31 : decode cX2_canBeOneStep 31 = .ok (.aload_n 0, 1) := by decide +kernel
theorem dX2_canBeOneStep_32 : decode cX2_canBeOneStep 32 = .ok (.getfield 15, 3) := by decide +kernel
theorem dX2_canBeOneStep_35 : decode cX2_canBeOneStep 35 = .ok (.iload_n 1, 1) := by decide +kernel
theorem dX2_canBeOneStep_36 : decode cX2_canBeOneStep 36 = .ok (.iaload, 1) := by decide +kernel
theorem dX2_canBeOneStep_37 : decode cX2_canBeOneStep 37 = .ok (.aload_n 0, 1) := by decide +kernel
theorem dX2_canBeOneStep_38 : decode cX2_canBeOneStep 38 = .ok (.getfield 32, 3) := by decide +kernel
theorem dX2_canBeOneStep_41 : decode cX2_canBeOneStep 41 = .ok (.if_icmp .gt 7, 3) := by decide +kernel
theorem dX2_canBeOneStep_44 : decode cX2_canBeOneStep 44 = .ok (.iconst 1, 1) := by decide +kernel
theorem dX2_canBeOneStep_45 : decode cX2_canBeOneStep 45 = .ok (.goto 4, 3) := by decide +kernel
theorem dX2_canBeOneStep_48 : decode cX2_canBeOneStep 48 = .ok (.iconst 0, 1) := by decide +kernel
theorem dX2_canBeOneStep_49 : decode cX2_canBeOneStep 49 = .ok (.ireturn, 1) := by decide +kernel
set_option maxRecDepth 20000 in
theorem ggX2_setOf_X5_at : GoodIn wsX2_setOf wsX5_at := goodIn_r _ [5] (by decide +kernel) (by decide +kernel)
set_option maxRecDepth 20000 in
theorem gX2_setOf_X5_at_n51 : GoodIn wsX2_setOf (wsX5_at) := ggX2_setOf_X5_at
theorem dX2_setOf_0 : decode cX2_setOf 0 = .ok (.iload_n 1, 1) := by decide +kernel
theorem dX2_setOf_1 : decode cX2_setOf 1 = .ok (.aload_n 0, 1) := by decide +kernel
theorem dX2_setOf_2 : decode cX2_setOf 2 = .ok (.getfield 21, 3) := by decide +kernel
theorem dX2_setOf_5 : decode cX2_setOf 5 = .ok (.if_icmp .ge 14, 3) := by decide +kernel
theorem dX2_setOf_8 : decode cX2_setOf 8 = .ok (.aload_n 0, 1) := by decide +kernel
theorem dX2_setOf_9 : decode cX2_setOf 9 = .ok (.getfield 18, 3) := by decide +kernel
theorem dX2_setOf_12 : decode cX2_setOf 12 = .ok (.iload_n 1, 1) := by decide +kernel
theorem dX2_setOf_13 : decode cX2_setOf 13 = .ok (.invokestatic 51, 3) := by decide +kernel
theorem dX2_setOf_16 : decode cX2_setOf 16 = .ok (.goto 4, 3) := by decide +kernel
theorem dX2_setOf_19 : decode cX2_setOf 19 = .ok (.iconst (-1), 1) := by decide +kernel
theorem dX2_setOf_20 : decode cX2_setOf 20 = .ok (.ireturn, 1) := by decide +kernel
set_option maxRecDepth 20000 in
theorem ggX2_flips_J13_bitCount_95d88 : GoodIn wsX2_flips wsJ13_bitCount_95d88 := goodIn_r _ [7, 8, 9, 10] (by decide +kernel) (by decide +kernel)
set_option maxRecDepth 20000 in
theorem gX2_flips_J13_bitCount_95d88 : GoodIn wsX2_flips (va_wsS RX2 69 yJ13_bitCount_95d88 wsJ13_bitCount_95d88) := goodIn_app (goodIn_of _ (by decide +kernel)) ggX2_flips_J13_bitCount_95d88
theorem dX2_flips_0 : decode cX2_flips 0 = .ok (.aload_n 0, 1) := by decide +kernel
theorem dX2_flips_1 : decode cX2_flips 1 = .ok (.getfield 21, 3) := by decide +kernel
theorem dX2_flips_4 : decode cX2_flips 4 = .ok (.iconst (-1), 1) := by decide +kernel
theorem dX2_flips_5 : decode cX2_flips 5 = .ok (.if_icmp .ne 7, 3) := by decide +kernel
theorem dX2_flips_8 : decode cX2_flips 8 = .ok (.iconst (-1), 1) := by decide +kernel
theorem dX2_flips_9 : decode cX2_flips 9 = .ok (.goto 15, 3) := by decide +kernel
theorem dX2_flips_12 : decode cX2_flips 12 = .ok (.aload_n 0, 1) := by decide +kernel
theorem dX2_flips_13 : decode cX2_flips 13 = .ok (.getfield 25, 3) := by decide +kernel
theorem dX2_flips_16 : decode cX2_flips 16 = .ok (.aload_n 0, 1) := by decide +kernel
theorem dX2_flips_17 : decode cX2_flips 17 = .ok (.getfield 29, 3) := by decide +kernel
theorem dX2_flips_20 : decode cX2_flips 20 = .ok (.lxor, 1) := by decide +kernel
theorem dX2_flips_21 : decode cX2_flips 21 = .ok (.invokestatic 69, 3) := by decide +kernel
theorem dX2_flips_24 : decode cX2_flips 24 = .ok (.ireturn, 1) := by decide +kernel
set_option maxRecDepth 20000 in
theorem ggX2_pictureBehind_X5_bitOf : GoodIn wsX2_pictureBehind wsX5_bitOf := goodIn_r _ [6] (by decide +kernel) (by decide +kernel)
set_option maxRecDepth 20000 in
theorem gX2_pictureBehind_X5_bitOf_n76 : GoodIn wsX2_pictureBehind (wsX5_bitOf) := ggX2_pictureBehind_X5_bitOf
theorem dX2_pictureBehind_0 : decode cX2_pictureBehind 0 = .ok (.aload_n 0, 1) := by decide +kernel
theorem dX2_pictureBehind_1 : decode cX2_pictureBehind 1 = .ok (.getfield 25, 3) := by decide +kernel
theorem dX2_pictureBehind_4 : decode cX2_pictureBehind 4 = .ok (.lstore_n 2, 1) := by decide +kernel
theorem dX2_pictureBehind_5 : decode cX2_pictureBehind 5 = .ok (.iconst 0, 1) := by decide +kernel
theorem dX2_pictureBehind_6 : decode cX2_pictureBehind 6 = .ok (.istore 4, 2) := by decide +kernel
theorem dX2_pictureBehind_8 : decode cX2_pictureBehind 8 = .ok (.iload 4, 2) := by decide +kernel
theorem dX2_pictureBehind_10 : decode cX2_pictureBehind 10 = .ok (.bipush 8, 2) := by decide +kernel
theorem dX2_pictureBehind_12 : decode cX2_pictureBehind 12 = .ok (.if_icmp .ge 41, 3) := by decide +kernel
theorem dX2_pictureBehind_15 : decode cX2_pictureBehind 15 = .ok (.iload_n 1, 1) := by decide +kernel
theorem dX2_pictureBehind_16 : decode cX2_pictureBehind 16 = .ok (.iconst 1, 1) := by decide +kernel
theorem dX2_pictureBehind_17 : decode cX2_pictureBehind 17 = .ok (.iload 4, 2) := by decide +kernel
theorem dX2_pictureBehind_19 : decode cX2_pictureBehind 19 = .ok (.ishl, 1) := by decide +kernel
theorem dX2_pictureBehind_20 : decode cX2_pictureBehind 20 = .ok (.iand, 1) := by decide +kernel
theorem dX2_pictureBehind_21 : decode cX2_pictureBehind 21 = .ok (.ifCond .eq 26, 3) := by decide +kernel
theorem dX2_pictureBehind_24 : decode cX2_pictureBehind 24 = .ok (.lload_n 2, 1) := by decide +kernel
theorem dX2_pictureBehind_25 : decode cX2_pictureBehind 25 = .ok (.aload_n 0, 1) := by decide +kernel
theorem dX2_pictureBehind_26 : decode cX2_pictureBehind 26 = .ok (.getfield 25, 3) := by decide +kernel
theorem dX2_pictureBehind_29 : decode cX2_pictureBehind 29 = .ok (.aload_n 0, 1) := by decide +kernel
theorem dX2_pictureBehind_30 : decode cX2_pictureBehind 30 = .ok (.getfield 29, 3) := by decide +kernel
theorem dX2_pictureBehind_33 : decode cX2_pictureBehind 33 = .ok (.lxor, 1) := by decide +kernel
theorem dX2_pictureBehind_34 : decode cX2_pictureBehind 34 = .ok (.ldc2_w 74, 3) := by decide +kernel
theorem dX2_pictureBehind_37 : decode cX2_pictureBehind 37 = .ok (.iload 4, 2) := by decide +kernel
theorem dX2_pictureBehind_39 : decode cX2_pictureBehind 39 = .ok (.iconst 0, 1) := by decide +kernel
theorem dX2_pictureBehind_40 : decode cX2_pictureBehind 40 = .ok (.invokestatic 76, 3) := by decide +kernel
theorem dX2_pictureBehind_43 : decode cX2_pictureBehind 43 = .ok (.lshl, 1) := by decide +kernel
theorem dX2_pictureBehind_44 : decode cX2_pictureBehind 44 = .ok (.land, 1) := by decide +kernel
theorem dX2_pictureBehind_45 : decode cX2_pictureBehind 45 = .ok (.lxor, 1) := by decide +kernel
theorem dX2_pictureBehind_46 : decode cX2_pictureBehind 46 = .ok (.lstore_n 2, 1) := by decide +kernel
theorem dX2_pictureBehind_47 : decode cX2_pictureBehind 47 = .ok (.iinc 4 1, 3) := by decide +kernel
theorem dX2_pictureBehind_50 : decode cX2_pictureBehind 50 = .ok (.goto (-42), 3) := by decide +kernel
theorem dX2_pictureBehind_53 : decode cX2_pictureBehind 53 = .ok (.lload_n 2, 1) := by decide +kernel
theorem dX2_pictureBehind_54 : decode cX2_pictureBehind 54 = .ok (.lreturn, 1) := by decide +kernel
theorem dX3_init_0 : decode cX3_init 0 = .ok (.aload_n 0, 1) := by decide +kernel
theorem dX3_init_1 : decode cX3_init 1 = .ok (.invokespecial 3, 3) := by decide +kernel
theorem dX3_init_4 : decode cX3_init 4 = .ok (.aload_n 0, 1) := by decide +kernel
theorem dX3_init_5 : decode cX3_init 5 = .ok (.bipush 6, 2) := by decide +kernel
theorem dX3_init_7 : decode cX3_init 7 = .ok (.newarray .int, 2) := by decide +kernel
theorem dX3_init_9 : decode cX3_init 9 = .ok (.putfield 9, 3) := by decide +kernel
theorem dX3_init_12 : decode cX3_init 12 = .ok (.aload_n 0, 1) := by decide +kernel
theorem dX3_init_13 : decode cX3_init 13 = .ok (.bipush 6, 2) := by decide +kernel
theorem dX3_init_15 : decode cX3_init 15 = .ok (.newarray .int, 2) := by decide +kernel
theorem dX3_init_17 : decode cX3_init 17 = .ok (.putfield 15, 3) := by decide +kernel
theorem dX3_init_20 : decode cX3_init 20 = .ok (.return_, 1) := by decide +kernel
theorem dX3_fact_0 : decode cX3_fact 0 = .ok (.iload_n 1, 1) := by decide +kernel
theorem dX3_fact_1 : decode cX3_fact 1 = .ok (.lookupswitch 37 #[(14, 27), (15, 32)], 27) := by decide +kernel
theorem dX3_fact_28 : decode cX3_fact 28 = .ok (.aload_n 0, 1) := by decide +kernel
theorem dX3_fact_29 : decode cX3_fact 29 = .ok (.getfield 18, 3) := by decide +kernel
theorem dX3_fact_32 : decode cX3_fact 32 = .ok (.ireturn, 1) := by decide +kernel
theorem dX3_fact_33 : decode cX3_fact 33 = .ok (.aload_n 0, 1) := by decide +kernel
theorem dX3_fact_34 : decode cX3_fact 34 = .ok (.getfield 29, 3) := by decide +kernel
theorem dX3_fact_37 : decode cX3_fact 37 = .ok (.ireturn, 1) := by decide +kernel
theorem dX3_fact_38 : decode cX3_fact 38 = .ok (.aload_n 0, 1) := by decide +kernel
theorem dX3_fact_39 : decode cX3_fact 39 = .ok (.getfield 26, 3) := by decide +kernel
theorem dX3_fact_42 : decode cX3_fact 42 = .ok (.ireturn, 1) := by decide +kernel
theorem dX3_isTrue_0 : decode cX3_isTrue 0 = .ok (.aload_n 0, 1) := by decide +kernel
theorem dX3_isTrue_1 : decode cX3_isTrue 1 = .ok (.getfield 29, 3) := by decide +kernel
theorem dX3_isTrue_4 : decode cX3_isTrue 4 = .ok (.iconst (-1), 1) := by decide +kernel
theorem dX3_isTrue_5 : decode cX3_isTrue 5 = .ok (.if_icmp .eq 28, 3) := by decide +kernel
theorem dX3_isTrue_8 : decode cX3_isTrue 8 = .ok (.aload_n 0, 1) := by decide +kernel
theorem dX3_isTrue_9 : decode cX3_isTrue 9 = .ok (.getfield 29, 3) := by decide +kernel
theorem dX3_isTrue_12 : decode cX3_isTrue 12 = .ok (.ifCond .eq 21, 3) := by decide +kernel
theorem dX3_isTrue_15 : decode cX3_isTrue 15 = .ok (.aload_n 0, 1) := by decide +kernel
theorem dX3_isTrue_16 : decode cX3_isTrue 16 = .ok (.getfield 29, 3) := by decide +kernel
theorem dX3_isTrue_19 : decode cX3_isTrue 19 = .ok (.ifCond .le 18, 3) := by decide +kernel
theorem dX3_isTrue_22 : decode cX3_isTrue 22 = .ok (.aload_n 0, 1) := by decide +kernel
theorem dX3_isTrue_23 : decode cX3_isTrue 23 = .ok (.getfield 29, 3) := by decide +kernel
theorem dX3_isTrue_26 : decode cX3_isTrue 26 = .ok (.aload_n 0, 1) := by decide +kernel
theorem dX3_isTrue_27 : decode cX3_isTrue 27 = .ok (.getfield 18, 3) := by decide +kernel
theorem dX3_isTrue_30 : decode cX3_isTrue 30 = .ok (.if_icmp .ge 7, 3) := by decide +kernel
theorem dX3_isTrue_33 : decode cX3_isTrue 33 = .ok (.iconst 1, 1) := by decide +kernel
theorem dX3_isTrue_34 : decode cX3_isTrue 34 = .ok (.goto 4, 3) := by decide +kernel
theorem dX3_isTrue_37 : decode cX3_isTrue 37 = .ok (.iconst 0, 1) := by decide +kernel
theorem dX3_isTrue_38 : decode cX3_isTrue 38 = .ok (.ireturn, 1) := by decide +kernel
theorem dX4_init_0 : decode cX4_init 0 = .ok (.aload_n 0, 1) := by decide +kernel
theorem dX4_init_1 : decode cX4_init 1 = .ok (.invokespecial 3, 3) := by decide +kernel
theorem dX4_init_4 : decode cX4_init 4 = .ok (.aload_n 0, 1) := by decide +kernel
theorem dX4_init_5 : decode cX4_init 5 = .ok (.bipush 7, 2) := by decide +kernel
theorem dX4_init_7 : decode cX4_init 7 = .ok (.putfield 9, 3) := by decide +kernel
theorem dX4_init_10 : decode cX4_init 10 = .ok (.return_, 1) := by decide +kernel
theorem dX4_fact_0 : decode cX4_fact 0 = .ok (.iload_n 1, 1) := by decide +kernel
theorem dX4_fact_1 : decode cX4_fact 1 = .ok (.tableswitch 51 9 12 #[31, 36, 41, 46], 31) := by decide +kernel
theorem dX4_fact_32 : decode cX4_fact 32 = .ok (.aload_n 0, 1) := by decide +kernel
theorem dX4_fact_33 : decode cX4_fact 33 = .ok (.getfield 24, 3) := by decide +kernel
theorem dX4_fact_36 : decode cX4_fact 36 = .ok (.ireturn, 1) := by decide +kernel
theorem dX4_fact_37 : decode cX4_fact 37 = .ok (.aload_n 0, 1) := by decide +kernel
theorem dX4_fact_38 : decode cX4_fact 38 = .ok (.getfield 27, 3) := by decide +kernel
theorem dX4_fact_41 : decode cX4_fact 41 = .ok (.ireturn, 1) := by decide +kernel
theorem dX4_fact_42 : decode cX4_fact 42 = .ok (.aload_n 0, 1) := by decide +kernel
theorem dX4_fact_43 : decode cX4_fact 43 = .ok (.getfield 21, 3) := by decide +kernel
theorem dX4_fact_46 : decode cX4_fact 46 = .ok (.ireturn, 1) := by decide +kernel
theorem dX4_fact_47 : decode cX4_fact 47 = .ok (.aload_n 0, 1) := by decide +kernel
theorem dX4_fact_48 : decode cX4_fact 48 = .ok (.getfield 30, 3) := by decide +kernel
theorem dX4_fact_51 : decode cX4_fact 51 = .ok (.ireturn, 1) := by decide +kernel
theorem dX4_fact_52 : decode cX4_fact 52 = .ok (.aload_n 0, 1) := by decide +kernel
theorem dX4_fact_53 : decode cX4_fact 53 = .ok (.getfield 9, 3) := by decide +kernel
theorem dX4_fact_56 : decode cX4_fact 56 = .ok (.ireturn, 1) := by decide +kernel
set_option maxRecDepth 20000 in
theorem ggX5_init_X0_init : GoodIn wsX5_init wsX0_init := goodIn_r _ [28, 29, 2, 3, 30, 31, 32, 33, 59, 60, 61, 62, 63, 64] (by decide +kernel) (by decide +kernel)
set_option maxRecDepth 20000 in
theorem gX5_init_X0_init_n9 : GoodIn wsX5_init (wsX0_init) := ggX5_init_X0_init
set_option maxRecDepth 20000 in
theorem ggX5_init_X1_init : GoodIn wsX5_init wsX1_init := goodIn_r _ [35, 36, 2, 3, 30, 37, 38, 39, 40, 41, 42, 74, 75, 76, 77, 78, 79, 80] (by decide +kernel) (by decide +kernel)
set_option maxRecDepth 20000 in
theorem gX5_init_X1_init_n18 : GoodIn wsX5_init (wsX1_init) := ggX5_init_X1_init
set_option maxRecDepth 20000 in
theorem ggX5_init_X2_init : GoodIn wsX5_init wsX2_init := goodIn_r _ [44, 45, 2, 3, 30, 46, 47, 48, 49, 81, 82, 83, 84, 85, 86, 87, 88] (by decide +kernel) (by decide +kernel)
set_option maxRecDepth 20000 in
theorem gX5_init_X2_init_n25 : GoodIn wsX5_init (wsX2_init) := ggX5_init_X2_init
set_option maxRecDepth 20000 in
theorem ggX5_init_X4_init : GoodIn wsX5_init wsX4_init := goodIn_r _ [51, 52, 2, 3, 53, 89, 90, 91, 92, 93] (by decide +kernel) (by decide +kernel)
set_option maxRecDepth 20000 in
theorem gX5_init_X4_init_n32 : GoodIn wsX5_init (wsX4_init) := ggX5_init_X4_init
set_option maxRecDepth 20000 in
theorem ggX5_init_X3_init : GoodIn wsX5_init wsX3_init := goodIn_r _ [55, 56, 2, 3, 30, 57, 58, 94, 95, 96, 97, 98] (by decide +kernel) (by decide +kernel)
set_option maxRecDepth 20000 in
theorem gX5_init_X3_init_n39 : GoodIn wsX5_init (wsX3_init) := ggX5_init_X3_init
theorem dX5_init_0 : decode cX5_init 0 = .ok (.aload_n 0, 1) := by decide +kernel
theorem dX5_init_1 : decode cX5_init 1 = .ok (.invokespecial 1, 3) := by decide +kernel
theorem dX5_init_4 : decode cX5_init 4 = .ok (.aload_n 0, 1) := by decide +kernel
theorem dX5_init_5 : decode cX5_init 5 = .ok (.new 7, 3) := by decide +kernel
theorem dX5_init_8 : decode cX5_init 8 = .ok (.dup, 1) := by decide +kernel
theorem dX5_init_9 : decode cX5_init 9 = .ok (.invokespecial 9, 3) := by decide +kernel
theorem dX5_init_12 : decode cX5_init 12 = .ok (.putfield 10, 3) := by decide +kernel
theorem dX5_init_15 : decode cX5_init 15 = .ok (.aload_n 0, 1) := by decide +kernel
theorem dX5_init_16 : decode cX5_init 16 = .ok (.new 16, 3) := by decide +kernel
theorem dX5_init_19 : decode cX5_init 19 = .ok (.dup, 1) := by decide +kernel
theorem dX5_init_20 : decode cX5_init 20 = .ok (.invokespecial 18, 3) := by decide +kernel
theorem dX5_init_23 : decode cX5_init 23 = .ok (.putfield 19, 3) := by decide +kernel
theorem dX5_init_26 : decode cX5_init 26 = .ok (.aload_n 0, 1) := by decide +kernel
theorem dX5_init_27 : decode cX5_init 27 = .ok (.new 23, 3) := by decide +kernel
theorem dX5_init_30 : decode cX5_init 30 = .ok (.dup, 1) := by decide +kernel
theorem dX5_init_31 : decode cX5_init 31 = .ok (.invokespecial 25, 3) := by decide +kernel
theorem dX5_init_34 : decode cX5_init 34 = .ok (.putfield 26, 3) := by decide +kernel
theorem dX5_init_37 : decode cX5_init 37 = .ok (.aload_n 0, 1) := by decide +kernel
theorem dX5_init_38 : decode cX5_init 38 = .ok (.new 30, 3) := by decide +kernel
theorem dX5_init_41 : decode cX5_init 41 = .ok (.dup, 1) := by decide +kernel
theorem dX5_init_42 : decode cX5_init 42 = .ok (.invokespecial 32, 3) := by decide +kernel
theorem dX5_init_45 : decode cX5_init 45 = .ok (.putfield 33, 3) := by decide +kernel
theorem dX5_init_48 : decode cX5_init 48 = .ok (.aload_n 0, 1) := by decide +kernel
theorem dX5_init_49 : decode cX5_init 49 = .ok (.new 37, 3) := by decide +kernel
theorem dX5_init_52 : decode cX5_init 52 = .ok (.dup, 1) := by decide +kernel
theorem dX5_init_53 : decode cX5_init 53 = .ok (.invokespecial 39, 3) := by decide +kernel
theorem dX5_init_56 : decode cX5_init 56 = .ok (.putfield 40, 3) := by decide +kernel
theorem dX5_init_59 : decode cX5_init 59 = .ok (.aload_n 0, 1) := by decide +kernel
theorem dX5_init_60 : decode cX5_init 60 = .ok (.bipush 10, 2) := by decide +kernel
theorem dX5_init_62 : decode cX5_init 62 = .ok (.putfield 44, 3) := by decide +kernel
theorem dX5_init_65 : decode cX5_init 65 = .ok (.aload_n 0, 1) := by decide +kernel
theorem dX5_init_66 : decode cX5_init 66 = .ok (.iconst 3, 1) := by decide +kernel
theorem dX5_init_67 : decode cX5_init 67 = .ok (.putfield 48, 3) := by decide +kernel
theorem dX5_init_70 : decode cX5_init 70 = .ok (.aload_n 0, 1) := by decide +kernel
theorem dX5_init_71 : decode cX5_init 71 = .ok (.iconst (-1), 1) := by decide +kernel
theorem dX5_init_72 : decode cX5_init 72 = .ok (.putfield 51, 3) := by decide +kernel
theorem dX5_init_75 : decode cX5_init 75 = .ok (.return_, 1) := by decide +kernel
set_option maxRecDepth 20000 in
theorem ggX5_width_X0_begin : GoodIn wsX5_width wsX0_begin := goodIn_r _ [8, 9, 10, 11, 12, 13, 14, 24, 25, 26, 27, 28, 29] (by decide +kernel) (by decide +kernel)
set_option maxRecDepth 20000 in
theorem gX5_width_X0_begin_n64 : GoodIn wsX5_width (wsX0_begin) := ggX5_width_X0_begin
theorem dX5_width_0 : decode cX5_width 0 = .ok (.iload_n 1, 1) := by decide +kernel
theorem dX5_width_1 : decode cX5_width 1 = .ok (.iconst 4, 1) := by decide +kernel
theorem dX5_width_2 : decode cX5_width 2 = .ok (.if_icmp .lt 9, 3) := by decide +kernel
theorem dX5_width_5 : decode cX5_width 5 = .ok (.iload_n 1, 1) := by decide +kernel
theorem dX5_width_6 : decode cX5_width 6 = .ok (.bipush 8, 2) := by decide +kernel
theorem dX5_width_8 : decode cX5_width 8 = .ok (.if_icmp .le 13, 3) := by decide +kernel
theorem dX5_width_11 : decode cX5_width 11 = .ok (.new 54, 3) := by decide +kernel
theorem dX5_width_14 : decode cX5_width 14 = .ok (.dup, 1) := by decide +kernel
theorem dX5_width_15 : decode cX5_width 15 = .ok (.ldc 56, 2) := by decide +kernel
theorem dX5_width_17 : decode cX5_width 17 = .ok (.invokespecial 58, 3) := by decide +kernel
theorem dX5_width_20 : decode cX5_width 20 = .ok (.athrow, 1) := by decide +kernel
theorem dX5_width_21 : decode cX5_width 21 = .ok (.aload_n 0, 1) := by decide +kernel
theorem dX5_width_22 : decode cX5_width 22 = .ok (.getfield 10, 3) := by decide +kernel
theorem dX5_width_25 : decode cX5_width 25 = .ok (.getfield 61, 3) := by decide +kernel
theorem dX5_width_28 : decode cX5_width 28 = .ok (.istore_n 2, 1) := by decide +kernel
theorem dX5_width_29 : decode cX5_width 29 = .ok (.aload_n 0, 1) := by decide +kernel
theorem dX5_width_30 : decode cX5_width 30 = .ok (.getfield 10, 3) := by decide +kernel
theorem dX5_width_33 : decode cX5_width 33 = .ok (.iload_n 1, 1) := by decide +kernel
theorem dX5_width_34 : decode cX5_width 34 = .ok (.invokevirtual 64, 3) := by decide +kernel
theorem dX5_width_37 : decode cX5_width 37 = .ok (.aload_n 0, 1) := by decide +kernel
theorem dX5_width_38 : decode cX5_width 38 = .ok (.iconst (-1), 1) := by decide +kernel
theorem dX5_width_39 : decode cX5_width 39 = .ok (.putfield 51, 3) := by decide +kernel
theorem dX5_width_42 : decode cX5_width 42 = .ok (.iload_n 2, 1) := by decide +kernel
theorem dX5_width_43 : decode cX5_width 43 = .ok (.ireturn, 1) := by decide +kernel
theorem dX5_power_0 : decode cX5_power 0 = .ok (.iload_n 1, 1) := by decide +kernel
theorem dX5_power_1 : decode cX5_power 1 = .ok (.iconst 1, 1) := by decide +kernel
theorem dX5_power_2 : decode cX5_power 2 = .ok (.if_icmp .lt 19, 3) := by decide +kernel
theorem dX5_power_5 : decode cX5_power 5 = .ok (.iload_n 1, 1) := by decide +kernel
theorem dX5_power_6 : decode cX5_power 6 = .ok (.bipush 40, 2) := by decide +kernel
theorem dX5_power_8 : decode cX5_power 8 = .ok (.if_icmp .gt 13, 3) := by decide +kernel
theorem dX5_power_11 : decode cX5_power 11 = .ok (.iload_n 2, 1) := by decide +kernel
theorem dX5_power_12 : decode cX5_power 12 = .ok (.ifCond .lt 9, 3) := by decide +kernel
theorem dX5_power_15 : decode cX5_power 15 = .ok (.iload_n 2, 1) := by decide +kernel
theorem dX5_power_16 : decode cX5_power 16 = .ok (.bipush 10, 2) := by decide +kernel
theorem dX5_power_18 : decode cX5_power 18 = .ok (.if_icmp .le 13, 3) := by decide +kernel
theorem dX5_power_21 : decode cX5_power 21 = .ok (.new 54, 3) := by decide +kernel
theorem dX5_power_24 : decode cX5_power 24 = .ok (.dup, 1) := by decide +kernel
theorem dX5_power_25 : decode cX5_power 25 = .ok (.ldc 68, 2) := by decide +kernel
theorem dX5_power_27 : decode cX5_power 27 = .ok (.invokespecial 58, 3) := by decide +kernel
theorem dX5_power_30 : decode cX5_power 30 = .ok (.athrow, 1) := by decide +kernel
theorem dX5_power_31 : decode cX5_power 31 = .ok (.aload_n 0, 1) := by decide +kernel
theorem dX5_power_32 : decode cX5_power 32 = .ok (.getfield 44, 3) := by decide +kernel
theorem dX5_power_35 : decode cX5_power 35 = .ok (.istore_n 3, 1) := by decide +kernel
theorem dX5_power_36 : decode cX5_power 36 = .ok (.aload_n 0, 1) := by decide +kernel
theorem dX5_power_37 : decode cX5_power 37 = .ok (.iload_n 1, 1) := by decide +kernel
theorem dX5_power_38 : decode cX5_power 38 = .ok (.putfield 44, 3) := by decide +kernel
theorem dX5_power_41 : decode cX5_power 41 = .ok (.aload_n 0, 1) := by decide +kernel
theorem dX5_power_42 : decode cX5_power 42 = .ok (.iload_n 2, 1) := by decide +kernel
theorem dX5_power_43 : decode cX5_power 43 = .ok (.putfield 48, 3) := by decide +kernel
theorem dX5_power_46 : decode cX5_power 46 = .ok (.iload_n 3, 1) := by decide +kernel
theorem dX5_power_47 : decode cX5_power 47 = .ok (.ireturn, 1) := by decide +kernel
set_option maxRecDepth 20000 in
theorem ggX5_letter_X5_isColumnSet : GoodIn wsX5_letter wsX5_isColumnSet := goodIn_r _ [9] (by decide +kernel) (by decide +kernel)
set_option maxRecDepth 20000 in
theorem gX5_letter_X5_isColumnSet : GoodIn wsX5_letter (va_wsS RX5 70 yX5_isColumnSet wsX5_isColumnSet) := goodIn_app (goodIn_of _ (by decide +kernel)) ggX5_letter_X5_isColumnSet
set_option maxRecDepth 20000 in
theorem ggX5_letter_X1_addLetter : GoodIn wsX5_letter wsX1_addLetter := goodIn_r _ [13, 14, 15, 16, 17, 8, 18, 28, 29, 30, 31, 32, 33, 34] (by decide +kernel) (by decide +kernel)
set_option maxRecDepth 20000 in
theorem gX5_letter_X1_addLetter_n86 : GoodIn wsX5_letter (wsX1_addLetter) := ggX5_letter_X1_addLetter
theorem dX5_letter_0 : decode cX5_letter 0 = .ok (.iload_n 1, 1) := by decide +kernel
theorem dX5_letter_1 : decode cX5_letter 1 = .ok (.iconst 1, 1) := by decide +kernel
theorem dX5_letter_2 : decode cX5_letter 2 = .ok (.if_icmp .lt 30, 3) := by decide +kernel
theorem dX5_letter_5 : decode cX5_letter 5 = .ok (.iload_n 1, 1) := by decide +kernel
theorem dX5_letter_6 : decode cX5_letter 6 = .ok (.iconst 3, 1) := by decide +kernel
theorem dX5_letter_7 : decode cX5_letter 7 = .ok (.if_icmp .gt 25, 3) := by decide +kernel
theorem dX5_letter_10 : decode cX5_letter 10 = .ok (.iload_n 2, 1) := by decide +kernel
theorem dX5_letter_11 : decode cX5_letter 11 = .ok (.invokestatic 70, 3) := by decide +kernel
theorem dX5_letter_14 : decode cX5_letter 14 = .ok (.ifCond .eq 18, 3) := by decide +kernel
theorem dX5_letter_17 : decode cX5_letter 17 = .ok (.iload_n 3, 1) := by decide +kernel
theorem dX5_letter_18 : decode cX5_letter 18 = .ok (.invokestatic 70, 3) := by decide +kernel
theorem dX5_letter_21 : decode cX5_letter 21 = .ok (.ifCond .eq 11, 3) := by decide +kernel
theorem dX5_letter_24 : decode cX5_letter 24 = .ok (.iload 4, 2) := by decide +kernel
theorem dX5_letter_26 : decode cX5_letter 26 = .ok (.invokestatic 70, 3) := by decide +kernel
theorem dX5_letter_29 : decode cX5_letter 29 = .ok (.ifCond .ne 13, 3) := by decide +kernel
theorem dX5_letter_32 : decode cX5_letter 32 = .ok (.new 54, 3) := by decide +kernel
theorem dX5_letter_35 : decode cX5_letter 35 = .ok (.dup, 1) := by decide +kernel
theorem dX5_letter_36 : decode cX5_letter 36 = .ok (.ldc 74, 2) := by decide +kernel
theorem dX5_letter_38 : decode cX5_letter 38 = .ok (.invokespecial 58, 3) := by decide +kernel
theorem dX5_letter_41 : decode cX5_letter 41 = .ok (.athrow, 1) := by decide +kernel
theorem dX5_letter_42 : decode cX5_letter 42 = .ok (.iload_n 1, 1) := by decide +kernel
theorem dX5_letter_43 : decode cX5_letter 43 = .ok (.iconst 2, 1) := by decide +kernel
theorem dX5_letter_44 : decode cX5_letter 44 = .ok (.if_icmp .ge 7, 3) := by decide +kernel
theorem dX5_letter_47 : decode cX5_letter 47 = .ok (.iload_n 3, 1) := by decide +kernel
theorem dX5_letter_48 : decode cX5_letter 48 = .ok (.ifCond .ne 22, 3) := by decide +kernel
theorem dX5_letter_51 : decode cX5_letter 51 = .ok (.iload_n 1, 1) := by decide +kernel
theorem dX5_letter_52 : decode cX5_letter 52 = .ok (.iconst 3, 1) := by decide +kernel
theorem dX5_letter_53 : decode cX5_letter 53 = .ok (.if_icmp .ge 8, 3) := by decide +kernel
theorem dX5_letter_56 : decode cX5_letter 56 = .ok (.iload 4, 2) := by decide +kernel
theorem dX5_letter_58 : decode cX5_letter 58 = .ok (.ifCond .ne 12, 3) := by decide +kernel
theorem dX5_letter_61 : decode cX5_letter 61 = .ok (.iload_n 2, 1) := by decide +kernel
theorem dX5_letter_62 : decode cX5_letter 62 = .ok (.iload_n 3, 1) := by decide +kernel
theorem dX5_letter_63 : decode cX5_letter 63 = .ok (.ior, 1) := by decide +kernel
theorem dX5_letter_64 : decode cX5_letter 64 = .ok (.iload 4, 2) := by decide +kernel
theorem dX5_letter_66 : decode cX5_letter 66 = .ok (.ior, 1) := by decide +kernel
theorem dX5_letter_67 : decode cX5_letter 67 = .ok (.ifCond .ne 13, 3) := by decide +kernel
theorem dX5_letter_70 : decode cX5_letter 70 = .ok (.new 54, 3) := by decide +kernel
theorem dX5_letter_73 : decode cX5_letter 73 = .ok (.dup, 1) := by decide +kernel
theorem dX5_letter_74 : decode cX5_letter 74 = .ok (.ldc 76, 2) := by decide +kernel
theorem dX5_letter_76 : decode cX5_letter 76 = .ok (.invokespecial 58, 3) := by decide +kernel
theorem dX5_letter_79 : decode cX5_letter 79 = .ok (.athrow, 1) := by decide +kernel
theorem dX5_letter_80 : decode cX5_letter 80 = .ok (.aload_n 0, 1) := by decide +kernel
theorem dX5_letter_81 : decode cX5_letter 81 = .ok (.getfield 19, 3) := by decide +kernel
theorem dX5_letter_84 : decode cX5_letter 84 = .ok (.getfield 78, 3) := by decide +kernel
theorem dX5_letter_87 : decode cX5_letter 87 = .ok (.bipush 6, 2) := by decide +kernel
theorem dX5_letter_89 : decode cX5_letter 89 = .ok (.if_icmp .lt 13, 3) := by decide +kernel
theorem dX5_letter_92 : decode cX5_letter 92 = .ok (.new 81, 3) := by decide +kernel
theorem dX5_letter_95 : decode cX5_letter 95 = .ok (.dup, 1) := by decide +kernel
theorem dX5_letter_96 : decode cX5_letter 96 = .ok (.ldc 83, 2) := by decide +kernel
theorem dX5_letter_98 : decode cX5_letter 98 = .ok (.invokespecial 85, 3) := by decide +kernel
theorem dX5_letter_101 : decode cX5_letter 101 = .ok (.athrow, 1) := by decide +kernel
theorem dX5_letter_102 : decode cX5_letter 102 = .ok (.aload_n 0, 1) := by decide +kernel
theorem dX5_letter_103 : decode cX5_letter 103 = .ok (.getfield 19, 3) := by decide +kernel
theorem dX5_letter_106 : decode cX5_letter 106 = .ok (.iload_n 1, 1) := by decide +kernel
theorem dX5_letter_107 : decode cX5_letter 107 = .ok (.iload_n 2, 1) := by decide +kernel
theorem dX5_letter_108 : decode cX5_letter 108 = .ok (.iload_n 3, 1) := by decide +kernel
theorem dX5_letter_109 : decode cX5_letter 109 = .ok (.iconst 5, 1) := by decide +kernel
theorem dX5_letter_110 : decode cX5_letter 110 = .ok (.ishl, 1) := by decide +kernel
theorem dX5_letter_111 : decode cX5_letter 111 = .ok (.ior, 1) := by decide +kernel
theorem dX5_letter_112 : decode cX5_letter 112 = .ok (.iload 4, 2) := by decide +kernel
theorem dX5_letter_114 : decode cX5_letter 114 = .ok (.bipush 10, 2) := by decide +kernel
theorem dX5_letter_116 : decode cX5_letter 116 = .ok (.ishl, 1) := by decide +kernel
theorem dX5_letter_117 : decode cX5_letter 117 = .ok (.ior, 1) := by decide +kernel
theorem dX5_letter_118 : decode cX5_letter 118 = .ok (.invokevirtual 86, 3) := by decide +kernel
theorem dX5_letter_121 : decode cX5_letter 121 = .ok (.ireturn, 1) := by decide +kernel
set_option maxRecDepth 20000 in
theorem ggX5_list_X1_canSpell : GoodIn wsX5_list wsX1_canSpell := goodIn_r _ [9, 10, 45, 46, 47, 48, 49, 50, 51] (by decide +kernel) (by decide +kernel)
set_option maxRecDepth 20000 in
theorem gX5_list_X1_canSpell_n90 : GoodIn wsX5_list (wsX1_canSpell) := ggX5_list_X1_canSpell
set_option maxRecDepth 20000 in
theorem ggX5_list_X1_hasRow : GoodIn wsX5_list wsX1_hasRow := goodIn_r _ [13, 14, 15, 16, 17, 18, 45, 46, 47, 48, 49, 50, 51] (by decide +kernel) (by decide +kernel)
set_option maxRecDepth 20000 in
theorem gX5_list_X1_hasRow_n98 : GoodIn wsX5_list (wsX1_hasRow) := ggX5_list_X1_hasRow
set_option maxRecDepth 20000 in
theorem ggX5_list_X1_addLine : GoodIn wsX5_list wsX1_addLine := goodIn_r _ [21, 22, 15, 14, 23, 24, 25, 26, 27, 7, 28, 29, 16, 17, 18, 30, 31, 32, 33, 34, 35, 45, 46, 47, 48, 49, 50, 51] (by decide +kernel) (by decide +kernel)
set_option maxRecDepth 20000 in
theorem gX5_list_X1_addLine_n103 : GoodIn wsX5_list (wsX1_addLine) := ggX5_list_X1_addLine
theorem dX5_list_0 : decode cX5_list 0 = .ok (.aload_n 0, 1) := by decide +kernel
theorem dX5_list_1 : decode cX5_list 1 = .ok (.getfield 19, 3) := by decide +kernel
theorem dX5_list_4 : decode cX5_list 4 = .ok (.iload_n 1, 1) := by decide +kernel
theorem dX5_list_5 : decode cX5_list 5 = .ok (.invokevirtual 90, 3) := by decide +kernel
theorem dX5_list_8 : decode cX5_list 8 = .ok (.ifCond .ne 13, 3) := by decide +kernel
theorem dX5_list_11 : decode cX5_list 11 = .ok (.new 54, 3) := by decide +kernel
theorem dX5_list_14 : decode cX5_list 14 = .ok (.dup, 1) := by decide +kernel
theorem dX5_list_15 : decode cX5_list 15 = .ok (.ldc 93, 2) := by decide +kernel
theorem dX5_list_17 : decode cX5_list 17 = .ok (.invokespecial 58, 3) := by decide +kernel
theorem dX5_list_20 : decode cX5_list 20 = .ok (.athrow, 1) := by decide +kernel
theorem dX5_list_21 : decode cX5_list 21 = .ok (.aload_n 0, 1) := by decide +kernel
theorem dX5_list_22 : decode cX5_list 22 = .ok (.getfield 19, 3) := by decide +kernel
theorem dX5_list_25 : decode cX5_list 25 = .ok (.getfield 95, 3) := by decide +kernel
theorem dX5_list_28 : decode cX5_list 28 = .ok (.bipush 8, 2) := by decide +kernel
theorem dX5_list_30 : decode cX5_list 30 = .ok (.if_icmp .ge 14, 3) := by decide +kernel
theorem dX5_list_33 : decode cX5_list 33 = .ok (.aload_n 0, 1) := by decide +kernel
theorem dX5_list_34 : decode cX5_list 34 = .ok (.getfield 19, 3) := by decide +kernel
theorem dX5_list_37 : decode cX5_list 37 = .ok (.iload_n 1, 1) := by decide +kernel
theorem dX5_list_38 : decode cX5_list 38 = .ok (.invokevirtual 98, 3) := by decide +kernel
theorem dX5_list_41 : decode cX5_list 41 = .ok (.ifCond .eq 13, 3) := by decide +kernel
theorem dX5_list_44 : decode cX5_list 44 = .ok (.new 81, 3) := by decide +kernel
theorem dX5_list_47 : decode cX5_list 47 = .ok (.dup, 1) := by decide +kernel
theorem dX5_list_48 : decode cX5_list 48 = .ok (.ldc 101, 2) := by decide +kernel
theorem dX5_list_50 : decode cX5_list 50 = .ok (.invokespecial 85, 3) := by decide +kernel
theorem dX5_list_53 : decode cX5_list 53 = .ok (.athrow, 1) := by decide +kernel
theorem dX5_list_54 : decode cX5_list 54 = .ok (.aload_n 0, 1) := by decide +kernel
theorem dX5_list_55 : decode cX5_list 55 = .ok (.getfield 19, 3) := by decide +kernel
theorem dX5_list_58 : decode cX5_list 58 = .ok (.iload_n 1, 1) := by decide +kernel
theorem dX5_list_59 : decode cX5_list 59 = .ok (.invokevirtual 103, 3) := by decide +kernel
theorem dX5_list_62 : decode cX5_list 62 = .ok (.ireturn, 1) := by decide +kernel
set_option maxRecDepth 20000 in
theorem ggX5_stick_X5_needDot : GoodIn wsX5_stick wsX5_needDot := goodIn_ca (goodIn_r _ [8, 9, 10, 11, 12, 13, 7, 14, 3, 15, 16, 17, 38, 39, 40, 41, 42, 43, 44, 45, 46, 47, 48, 49, 50, 51, 52] (by decide +kernel) (by decide +kernel)) (goodIn_sub (fun _ h => List.mem_cons_of_mem _ (List.mem_append_right _ h)) (by decide +kernel))
set_option maxRecDepth 20000 in
theorem gX5_stick_X5_needDot : GoodIn wsX5_stick (wsV RX5 107 RX5 yX5_needDot wsX5_needDot) := goodIn_app (goodIn_of _ (by decide +kernel)) ggX5_stick_X5_needDot
set_option maxRecDepth 20000 in
theorem ggX5_stick_X0_faceOf : GoodIn wsX5_stick wsX0_faceOf := goodIn_r _ [21, 22, 23, 7, 24, 25, 26, 27, 47, 48, 49, 50, 51, 52] (by decide +kernel) (by decide +kernel)
set_option maxRecDepth 20000 in
theorem gX5_stick_X0_faceOf_n113 : GoodIn wsX5_stick (wsX0_faceOf) := ggX5_stick_X0_faceOf
set_option maxRecDepth 20000 in
theorem ggX5_stick_X0_fix : GoodIn wsX5_stick wsX0_fix := goodIn_r _ [30, 31, 32, 33, 22, 23, 7, 24, 25, 26, 27, 34, 35, 36, 19, 37, 47, 48, 49, 50, 51, 52] (by decide +kernel) (by decide +kernel)
set_option maxRecDepth 20000 in
theorem gX5_stick_X0_fix_n116 : GoodIn wsX5_stick (wsX0_fix) := ggX5_stick_X0_fix
theorem dX5_stick_0 : decode cX5_stick 0 = .ok (.aload_n 0, 1) := by decide +kernel
theorem dX5_stick_1 : decode cX5_stick 1 = .ok (.iload_n 1, 1) := by decide +kernel
theorem dX5_stick_2 : decode cX5_stick 2 = .ok (.iload_n 2, 1) := by decide +kernel
theorem dX5_stick_3 : decode cX5_stick 3 = .ok (.invokevirtual 107, 3) := by decide +kernel
theorem dX5_stick_6 : decode cX5_stick 6 = .ok (.iload_n 3, 1) := by decide +kernel
theorem dX5_stick_7 : decode cX5_stick 7 = .ok (.iconst (-1), 1) := by decide +kernel
theorem dX5_stick_8 : decode cX5_stick 8 = .ok (.if_icmp .lt 8, 3) := by decide +kernel
theorem dX5_stick_11 : decode cX5_stick 11 = .ok (.iload_n 3, 1) := by decide +kernel
theorem dX5_stick_12 : decode cX5_stick 12 = .ok (.iconst 1, 1) := by decide +kernel
theorem dX5_stick_13 : decode cX5_stick 13 = .ok (.if_icmp .le 13, 3) := by decide +kernel
theorem dX5_stick_16 : decode cX5_stick 16 = .ok (.new 54, 3) := by decide +kernel
theorem dX5_stick_19 : decode cX5_stick 19 = .ok (.dup, 1) := by decide +kernel
theorem dX5_stick_20 : decode cX5_stick 20 = .ok (.ldc 111, 2) := by decide +kernel
theorem dX5_stick_22 : decode cX5_stick 22 = .ok (.invokespecial 58, 3) := by decide +kernel
theorem dX5_stick_25 : decode cX5_stick 25 = .ok (.athrow, 1) := by decide +kernel
theorem dX5_stick_26 : decode cX5_stick 26 = .ok (.aload_n 0, 1) := by decide +kernel
theorem dX5_stick_27 : decode cX5_stick 27 = .ok (.getfield 10, 3) := by decide +kernel
theorem dX5_stick_30 : decode cX5_stick 30 = .ok (.iload_n 1, 1) := by decide +kernel
theorem dX5_stick_31 : decode cX5_stick 31 = .ok (.iload_n 2, 1) := by decide +kernel
theorem dX5_stick_32 : decode cX5_stick 32 = .ok (.invokevirtual 113, 3) := by decide +kernel
theorem dX5_stick_35 : decode cX5_stick 35 = .ok (.istore 4, 2) := by decide +kernel
theorem dX5_stick_37 : decode cX5_stick 37 = .ok (.aload_n 0, 1) := by decide +kernel
theorem dX5_stick_38 : decode cX5_stick 38 = .ok (.getfield 10, 3) := by decide +kernel
theorem dX5_stick_41 : decode cX5_stick 41 = .ok (.iload_n 1, 1) := by decide +kernel
theorem dX5_stick_42 : decode cX5_stick 42 = .ok (.iload_n 2, 1) := by decide +kernel
theorem dX5_stick_43 : decode cX5_stick 43 = .ok (.iload_n 3, 1) := by decide +kernel
theorem dX5_stick_44 : decode cX5_stick 44 = .ok (.invokevirtual 116, 3) := by decide +kernel
theorem dX5_stick_47 : decode cX5_stick 47 = .ok (.iload 4, 2) := by decide +kernel
theorem dX5_stick_49 : decode cX5_stick 49 = .ok (.ireturn, 1) := by decide +kernel
set_option maxRecDepth 20000 in
theorem ggX5_swap_X5_needColumn : GoodIn wsX5_swap wsX5_needColumn := goodIn_ca (goodIn_r _ [6, 7, 8, 1, 26, 27, 28, 29, 30, 31, 32, 33, 34, 35, 36, 37, 38, 39, 40] (by decide +kernel) (by decide +kernel)) (goodIn_sub (fun _ h => List.mem_cons_of_mem _ (List.mem_append_right _ h)) (by decide +kernel))
set_option maxRecDepth 20000 in
theorem gX5_swap_X5_needColumn : GoodIn wsX5_swap (wsV RX5 120 RX5 yX5_needColumn wsX5_needColumn) := goodIn_app (goodIn_of _ (by decide +kernel)) ggX5_swap_X5_needColumn
set_option maxRecDepth 20000 in
theorem ggX5_swap_X5_at : GoodIn wsX5_swap wsX5_at := goodIn_r _ [11] (by decide +kernel) (by decide +kernel)
set_option maxRecDepth 20000 in
theorem gX5_swap_X5_at : GoodIn wsX5_swap (va_wsS RX5 127 yX5_at wsX5_at) := goodIn_app (goodIn_of _ (by decide +kernel)) ggX5_swap_X5_at
set_option maxRecDepth 20000 in
theorem ggX5_swap_X0_renewColumn : GoodIn wsX5_swap wsX0_renewColumn := goodIn_r _ [15, 16, 17, 18, 19, 20, 21, 22, 5, 23, 24, 25, 35, 36, 37, 38, 39, 40] (by decide +kernel) (by decide +kernel)
set_option maxRecDepth 20000 in
theorem gX5_swap_X0_renewColumn_n131 : GoodIn wsX5_swap (wsX0_renewColumn) := ggX5_swap_X0_renewColumn
theorem dX5_swap_0 : decode cX5_swap 0 = .ok (.aload_n 0, 1) := by decide +kernel
theorem dX5_swap_1 : decode cX5_swap 1 = .ok (.iload_n 1, 1) := by decide +kernel
theorem dX5_swap_2 : decode cX5_swap 2 = .ok (.invokevirtual 120, 3) := by decide +kernel
theorem dX5_swap_5 : decode cX5_swap 5 = .ok (.aload_n 0, 1) := by decide +kernel
theorem dX5_swap_6 : decode cX5_swap 6 = .ok (.getfield 10, 3) := by decide +kernel
theorem dX5_swap_9 : decode cX5_swap 9 = .ok (.getfield 123, 3) := by decide +kernel
theorem dX5_swap_12 : decode cX5_swap 12 = .ok (.iload_n 1, 1) := by decide +kernel
theorem dX5_swap_13 : decode cX5_swap 13 = .ok (.invokestatic 127, 3) := by decide +kernel
theorem dX5_swap_16 : decode cX5_swap 16 = .ok (.istore_n 2, 1) := by decide +kernel
theorem dX5_swap_17 : decode cX5_swap 17 = .ok (.aload_n 0, 1) := by decide +kernel
theorem dX5_swap_18 : decode cX5_swap 18 = .ok (.getfield 10, 3) := by decide +kernel
theorem dX5_swap_21 : decode cX5_swap 21 = .ok (.iload_n 1, 1) := by decide +kernel
theorem dX5_swap_22 : decode cX5_swap 22 = .ok (.invokevirtual 131, 3) := by decide +kernel
theorem dX5_swap_25 : decode cX5_swap 25 = .ok (.iload_n 2, 1) := by decide +kernel
theorem dX5_swap_26 : decode cX5_swap 26 = .ok (.ireturn, 1) := by decide +kernel
set_option maxRecDepth 20000 in
theorem ggX5_show_X5_needLine : GoodIn wsX5_show wsX5_needLine := goodIn_ca (goodIn_r _ [5, 6, 7, 8, 9, 10, 4, 11, 12, 134, 135, 136, 137, 138, 139, 140, 141, 142, 143, 144, 145, 146, 147, 148, 149] (by decide +kernel) (by decide +kernel)) (goodIn_sub (fun _ h => List.mem_cons_of_mem _ (List.mem_append_right _ h)) (by decide +kernel))
set_option maxRecDepth 20000 in
theorem gX5_show_X5_needLine : GoodIn wsX5_show (wsV RX5 134 RX5 yX5_needLine wsX5_needLine) := goodIn_app (goodIn_of _ (by decide +kernel)) ggX5_show_X5_needLine
set_option maxRecDepth 20000 in
theorem ggX5_show_X5_bringUp : GoodIn wsX5_show wsX5_bringUp := goodIn_r _ [16, 17, 18, 19, 20, 21, 22, 23, 4, 24, 25, 12, 26, 27, 28, 29, 30, 31, 32, 33, 34, 35, 36, 37, 38, 39, 40, 41, 42, 43, 44, 45, 46, 47, 48, 49, 50, 51, 52, 53, 54, 55, 56, 57, 58, 59, 60, 61, 62, 63, 64, 65, 66, 67, 68, 69, 70, 71, 72, 73, 74, 75, 76, 77, 78, 79, 80, 81, 82, 83, 84, 85, 86, 87, 88, 89, 90, 91, 92, 93, 94, 95, 96, 97, 98, 99, 100, 101, 102, 103, 104, 105, 106, 107, 108, 109, 110, 111, 112, 113, 114, 115, 116, 117, 118, 119, 120, 121, 122, 123, 124, 125, 126, 127, 128, 129, 130, 131, 132, 133, 134, 135, 136, 137, 138, 139, 140, 141, 142, 150, 151, 152, 153, 154, 155, 156, 157, 158, 159, 160, 161, 162, 163, 143, 144, 145, 146, 147, 148, 149] (by decide +kernel) (by decide +kernel)
set_option maxRecDepth 20000 in
theorem gX5_show_X5_bringUp : GoodIn wsX5_show (wsV RX5 137 RX5 yX5_bringUp wsX5_bringUp) := goodIn_app (goodIn_of _ (by decide +kernel)) ggX5_show_X5_bringUp
theorem dX5_show_0 : decode cX5_show 0 = .ok (.aload_n 0, 1) := by decide +kernel
theorem dX5_show_1 : decode cX5_show 1 = .ok (.iload_n 1, 1) := by decide +kernel
theorem dX5_show_2 : decode cX5_show 2 = .ok (.invokevirtual 134, 3) := by decide +kernel
theorem dX5_show_5 : decode cX5_show 5 = .ok (.aload_n 0, 1) := by decide +kernel
theorem dX5_show_6 : decode cX5_show 6 = .ok (.iload_n 1, 1) := by decide +kernel
theorem dX5_show_7 : decode cX5_show 7 = .ok (.invokevirtual 137, 3) := by decide +kernel
theorem dX5_show_10 : decode cX5_show 10 = .ok (.ireturn, 1) := by decide +kernel
set_option maxRecDepth 20000 in
theorem ggX5_dot_X5_needDot : GoodIn wsX5_dot wsX5_needDot := goodIn_ca (goodIn_r _ [8, 9, 10, 11, 12, 13, 7, 14, 3, 15, 16, 17, 36, 37, 38, 39, 40, 41, 42, 43, 44, 45, 46, 47, 48, 49, 50] (by decide +kernel) (by decide +kernel)) (goodIn_sub (fun _ h => List.mem_cons_of_mem _ (List.mem_append_right _ h)) (by decide +kernel))
set_option maxRecDepth 20000 in
theorem gX5_dot_X5_needDot : GoodIn wsX5_dot (wsV RX5 107 RX5 yX5_needDot wsX5_needDot) := goodIn_app (goodIn_of _ (by decide +kernel)) ggX5_dot_X5_needDot
set_option maxRecDepth 20000 in
theorem ggX5_dot_X0_faceOf : GoodIn wsX5_dot wsX0_faceOf := goodIn_r _ [21, 22, 23, 7, 24, 25, 26, 27, 45, 46, 47, 48, 49, 50] (by decide +kernel) (by decide +kernel)
set_option maxRecDepth 20000 in
theorem gX5_dot_X0_faceOf_n113 : GoodIn wsX5_dot (wsX0_faceOf) := ggX5_dot_X0_faceOf
set_option maxRecDepth 20000 in
theorem ggX5_dot_X5_bitOf : GoodIn wsX5_dot wsX5_bitOf := goodIn_r _ [27] (by decide +kernel) (by decide +kernel)
set_option maxRecDepth 20000 in
theorem gX5_dot_X5_bitOf : GoodIn wsX5_dot (va_wsS RX5 199 yX5_bitOf wsX5_bitOf) := goodIn_app (goodIn_of _ (by decide +kernel)) ggX5_dot_X5_bitOf
set_option maxRecDepth 20000 in
theorem ggX5_dot_X5_at : GoodIn wsX5_dot wsX5_at := goodIn_r _ [30] (by decide +kernel) (by decide +kernel)
set_option maxRecDepth 20000 in
theorem gX5_dot_X5_at : GoodIn wsX5_dot (va_wsS RX5 127 yX5_at wsX5_at) := goodIn_app (goodIn_of _ (by decide +kernel)) ggX5_dot_X5_at
set_option maxRecDepth 20000 in
theorem ggX5_dot_X0_stuckFaceOf : GoodIn wsX5_dot wsX0_stuckFaceOf := goodIn_r _ [33, 34, 35, 23, 7, 24, 25, 26, 27, 45, 46, 47, 48, 49, 50] (by decide +kernel) (by decide +kernel)
set_option maxRecDepth 20000 in
theorem gX5_dot_X0_stuckFaceOf_n202 : GoodIn wsX5_dot (wsX0_stuckFaceOf) := ggX5_dot_X0_stuckFaceOf
theorem dX5_dot_0 : decode cX5_dot 0 = .ok (.aload_n 0, 1) := by decide +kernel
theorem dX5_dot_1 : decode cX5_dot 1 = .ok (.iload_n 1, 1) := by decide +kernel
theorem dX5_dot_2 : decode cX5_dot 2 = .ok (.iload_n 2, 1) := by decide +kernel
theorem dX5_dot_3 : decode cX5_dot 3 = .ok (.invokevirtual 107, 3) := by decide +kernel
theorem dX5_dot_6 : decode cX5_dot 6 = .ok (.iload_n 3, 1) := by decide +kernel
theorem dX5_dot_7 : decode cX5_dot 7 = .ok (.ifCond .lt 8, 3) := by decide +kernel
theorem dX5_dot_10 : decode cX5_dot 10 = .ok (.iload_n 3, 1) := by decide +kernel
theorem dX5_dot_11 : decode cX5_dot 11 = .ok (.iconst 2, 1) := by decide +kernel
theorem dX5_dot_12 : decode cX5_dot 12 = .ok (.if_icmp .le 13, 3) := by decide +kernel
theorem dX5_dot_15 : decode cX5_dot 15 = .ok (.new 54, 3) := by decide +kernel
theorem dX5_dot_18 : decode cX5_dot 18 = .ok (.dup, 1) := by decide +kernel
theorem dX5_dot_19 : decode cX5_dot 19 = .ok (.ldc 194, 2) := by decide +kernel
theorem dX5_dot_21 : decode cX5_dot 21 = .ok (.invokespecial 58, 3) := by decide +kernel
theorem dX5_dot_24 : decode cX5_dot 24 = .ok (.athrow, 1) := by decide +kernel
theorem dX5_dot_25 : decode cX5_dot 25 = .ok (.iload_n 3, 1) := by decide +kernel
theorem dX5_dot_26 : decode cX5_dot 26 = .ok (.ifCond .ne 13, 3) := by decide +kernel
theorem dX5_dot_29 : decode cX5_dot 29 = .ok (.aload_n 0, 1) := by decide +kernel
theorem dX5_dot_30 : decode cX5_dot 30 = .ok (.getfield 10, 3) := by decide +kernel
theorem dX5_dot_33 : decode cX5_dot 33 = .ok (.iload_n 1, 1) := by decide +kernel
theorem dX5_dot_34 : decode cX5_dot 34 = .ok (.iload_n 2, 1) := by decide +kernel
theorem dX5_dot_35 : decode cX5_dot 35 = .ok (.invokevirtual 113, 3) := by decide +kernel
theorem dX5_dot_38 : decode cX5_dot 38 = .ok (.ireturn, 1) := by decide +kernel
theorem dX5_dot_39 : decode cX5_dot 39 = .ok (.iload_n 3, 1) := by decide +kernel
theorem dX5_dot_40 : decode cX5_dot 40 = .ok (.iconst 1, 1) := by decide +kernel
theorem dX5_dot_41 : decode cX5_dot 41 = .ok (.if_icmp .ne 21, 3) := by decide +kernel
theorem dX5_dot_44 : decode cX5_dot 44 = .ok (.aload_n 0, 1) := by decide +kernel
theorem dX5_dot_45 : decode cX5_dot 45 = .ok (.getfield 10, 3) := by decide +kernel
theorem dX5_dot_48 : decode cX5_dot 48 = .ok (.getfield 196, 3) := by decide +kernel
theorem dX5_dot_51 : decode cX5_dot 51 = .ok (.iload_n 1, 1) := by decide +kernel
theorem dX5_dot_52 : decode cX5_dot 52 = .ok (.iload_n 2, 1) := by decide +kernel
theorem dX5_dot_53 : decode cX5_dot 53 = .ok (.invokestatic 199, 3) := by decide +kernel
theorem dX5_dot_56 : decode cX5_dot 56 = .ok (.invokestatic 127, 3) := by decide +kernel
theorem dX5_dot_59 : decode cX5_dot 59 = .ok (.goto 12, 3) := by decide +kernel
theorem dX5_dot_62 : decode cX5_dot 62 = .ok (.aload_n 0, 1) := by decide +kernel
theorem dX5_dot_63 : decode cX5_dot 63 = .ok (.getfield 10, 3) := by decide +kernel
theorem dX5_dot_66 : decode cX5_dot 66 = .ok (.iload_n 1, 1) := by decide +kernel
theorem dX5_dot_67 : decode cX5_dot 67 = .ok (.iload_n 2, 1) := by decide +kernel
theorem dX5_dot_68 : decode cX5_dot 68 = .ok (.invokevirtual 202, 3) := by decide +kernel
theorem dX5_dot_71 : decode cX5_dot 71 = .ok (.ireturn, 1) := by decide +kernel
set_option maxRecDepth 20000 in
theorem ggX5_column_X5_needColumn : GoodIn wsX5_column wsX5_needColumn := goodIn_ca (goodIn_r _ [7, 8, 9, 10, 28, 29, 30, 31, 32, 33, 34, 35, 36, 37, 38, 39, 40, 41, 42] (by decide +kernel) (by decide +kernel)) (goodIn_sub (fun _ h => List.mem_cons_of_mem _ (List.mem_append_right _ h)) (by decide +kernel))
set_option maxRecDepth 20000 in
theorem gX5_column_X5_needColumn : GoodIn wsX5_column (wsV RX5 120 RX5 yX5_needColumn wsX5_needColumn) := goodIn_app (goodIn_of _ (by decide +kernel)) ggX5_column_X5_needColumn
set_option maxRecDepth 20000 in
theorem ggX5_column_X5_columnFact : GoodIn wsX5_column wsX5_columnFact := goodIn_r _ [14, 10, 15, 16, 6, 17, 18, 19, 20, 21, 22, 23, 24, 25, 26, 27, 28, 29, 30, 31, 32, 33, 34, 35, 36, 37, 38, 39, 40, 41, 42] (by decide +kernel) (by decide +kernel)
set_option maxRecDepth 20000 in
theorem gX5_column_X5_columnFact : GoodIn wsX5_column (wsV RX5 205 RX5 yX5_columnFact wsX5_columnFact) := goodIn_app (goodIn_of _ (by decide +kernel)) ggX5_column_X5_columnFact
theorem dX5_column_0 : decode cX5_column 0 = .ok (.aload_n 0, 1) := by decide +kernel
theorem dX5_column_1 : decode cX5_column 1 = .ok (.iload_n 1, 1) := by decide +kernel
theorem dX5_column_2 : decode cX5_column 2 = .ok (.invokevirtual 120, 3) := by decide +kernel
theorem dX5_column_5 : decode cX5_column 5 = .ok (.iload_n 2, 1) := by decide +kernel
theorem dX5_column_6 : decode cX5_column 6 = .ok (.ifCond .lt 8, 3) := by decide +kernel
theorem dX5_column_9 : decode cX5_column 9 = .ok (.iload_n 2, 1) := by decide +kernel
theorem dX5_column_10 : decode cX5_column 10 = .ok (.iconst 2, 1) := by decide +kernel
theorem dX5_column_11 : decode cX5_column 11 = .ok (.if_icmp .le 13, 3) := by decide +kernel
theorem dX5_column_14 : decode cX5_column 14 = .ok (.new 54, 3) := by decide +kernel
theorem dX5_column_17 : decode cX5_column 17 = .ok (.dup, 1) := by decide +kernel
theorem dX5_column_18 : decode cX5_column 18 = .ok (.ldc 194, 2) := by decide +kernel
theorem dX5_column_20 : decode cX5_column 20 = .ok (.invokespecial 58, 3) := by decide +kernel
theorem dX5_column_23 : decode cX5_column 23 = .ok (.athrow, 1) := by decide +kernel
theorem dX5_column_24 : decode cX5_column 24 = .ok (.aload_n 0, 1) := by decide +kernel
theorem dX5_column_25 : decode cX5_column 25 = .ok (.iload_n 1, 1) := by decide +kernel
theorem dX5_column_26 : decode cX5_column 26 = .ok (.iload_n 2, 1) := by decide +kernel
theorem dX5_column_27 : decode cX5_column 27 = .ok (.invokevirtual 205, 3) := by decide +kernel
theorem dX5_column_30 : decode cX5_column 30 = .ok (.ireturn, 1) := by decide +kernel
set_option maxRecDepth 20000 in
theorem ggX5_ofLine_X5_needLine : GoodIn wsX5_ofLine wsX5_needLine := goodIn_ca (goodIn_r _ [7, 8, 9, 10, 11, 12, 6, 13, 14, 135, 136, 137, 138, 139, 140, 141, 142, 143, 144, 145, 146, 147, 148, 149, 150] (by decide +kernel) (by decide +kernel)) (goodIn_sub (fun _ h => List.mem_cons_of_mem _ (List.mem_append_right _ h)) (by decide +kernel))
set_option maxRecDepth 20000 in
theorem gX5_ofLine_X5_needLine : GoodIn wsX5_ofLine (wsV RX5 134 RX5 yX5_needLine wsX5_needLine) := goodIn_app (goodIn_of _ (by decide +kernel)) ggX5_ofLine_X5_needLine
set_option maxRecDepth 20000 in
theorem ggX5_ofLine_X5_makePlan : GoodIn wsX5_ofLine wsX5_makePlan := goodIn_r _ [18, 19, 20, 21, 14, 22, 23, 24, 6, 25, 26, 27, 28, 29, 30, 31, 32, 33, 34, 35, 36, 37, 38, 39, 40, 41, 42, 43, 44, 45, 46, 47, 48, 49, 50, 51, 52, 53, 54, 55, 56, 57, 58, 59, 60, 61, 62, 63, 64, 65, 66, 67, 68, 69, 70, 71, 72, 73, 74, 75, 76, 77, 78, 79, 80, 81, 82, 83, 84, 85, 86, 87, 88, 89, 90, 91, 92, 93, 94, 95, 96, 97, 98, 99, 100, 101, 102, 103, 104, 105, 106, 107, 108, 109, 110, 111, 112, 113, 114, 115, 116, 117, 118, 119, 120, 121, 135, 136, 137, 138, 139, 140, 141, 142, 143, 151, 152, 153, 154, 155, 156, 144, 145, 146, 147, 148, 149, 150, 157, 158, 159, 160, 161, 162, 163, 164] (by decide +kernel) (by decide +kernel)
set_option maxRecDepth 20000 in
theorem gX5_ofLine_X5_makePlan : GoodIn wsX5_ofLine (wsV RX5 210 RX5 yX5_makePlan wsX5_makePlan) := goodIn_app (goodIn_of _ (by decide +kernel)) ggX5_ofLine_X5_makePlan
set_option maxRecDepth 20000 in
theorem ggX5_ofLine_X5_lineFact : GoodIn wsX5_ofLine wsX5_lineFact := goodIn_r _ [125, 14, 20, 19, 126, 84, 6, 85, 22, 23, 24, 25, 26, 27, 28, 29, 30, 31, 32, 33, 34, 35, 36, 37, 38, 39, 40, 41, 42, 43, 44, 45, 127, 128, 129, 130, 90, 91, 92, 93, 94, 95, 96, 86, 87, 88, 89, 131, 47, 132, 133, 50, 65, 66, 134, 135, 136, 137, 138, 139, 140, 141, 142, 143, 144, 145, 146, 147, 148, 149, 150, 151, 152, 153, 154, 155, 156, 157, 158, 159, 160, 161, 162, 163, 164] (by decide +kernel) (by decide +kernel)
set_option maxRecDepth 20000 in
theorem gX5_ofLine_X5_lineFact : GoodIn wsX5_ofLine (wsV RX5 213 RX5 yX5_lineFact wsX5_lineFact) := goodIn_app (goodIn_of _ (by decide +kernel)) ggX5_ofLine_X5_lineFact
theorem dX5_ofLine_0 : decode cX5_ofLine 0 = .ok (.aload_n 0, 1) := by decide +kernel
theorem dX5_ofLine_1 : decode cX5_ofLine 1 = .ok (.iload_n 1, 1) := by decide +kernel
theorem dX5_ofLine_2 : decode cX5_ofLine 2 = .ok (.invokevirtual 134, 3) := by decide +kernel
theorem dX5_ofLine_5 : decode cX5_ofLine 5 = .ok (.iload_n 2, 1) := by decide +kernel
theorem dX5_ofLine_6 : decode cX5_ofLine 6 = .ok (.ifCond .lt 9, 3) := by decide +kernel
theorem dX5_ofLine_9 : decode cX5_ofLine 9 = .ok (.iload_n 2, 1) := by decide +kernel
theorem dX5_ofLine_10 : decode cX5_ofLine 10 = .ok (.bipush 7, 2) := by decide +kernel
theorem dX5_ofLine_12 : decode cX5_ofLine 12 = .ok (.if_icmp .le 13, 3) := by decide +kernel
theorem dX5_ofLine_15 : decode cX5_ofLine 15 = .ok (.new 54, 3) := by decide +kernel
theorem dX5_ofLine_18 : decode cX5_ofLine 18 = .ok (.dup, 1) := by decide +kernel
theorem dX5_ofLine_19 : decode cX5_ofLine 19 = .ok (.ldc 208, 2) := by decide +kernel
theorem dX5_ofLine_21 : decode cX5_ofLine 21 = .ok (.invokespecial 58, 3) := by decide +kernel
theorem dX5_ofLine_24 : decode cX5_ofLine 24 = .ok (.athrow, 1) := by decide +kernel
theorem dX5_ofLine_25 : decode cX5_ofLine 25 = .ok (.iload_n 2, 1) := by decide +kernel
theorem dX5_ofLine_26 : decode cX5_ofLine 26 = .ok (.bipush 6, 2) := by decide +kernel
theorem dX5_ofLine_28 : decode cX5_ofLine 28 = .ok (.if_icmp .lt 8, 3) := by decide +kernel
theorem dX5_ofLine_31 : decode cX5_ofLine 31 = .ok (.aload_n 0, 1) := by decide +kernel
theorem dX5_ofLine_32 : decode cX5_ofLine 32 = .ok (.iload_n 1, 1) := by decide +kernel
theorem dX5_ofLine_33 : decode cX5_ofLine 33 = .ok (.invokevirtual 210, 3) := by decide +kernel
theorem dX5_ofLine_36 : decode cX5_ofLine 36 = .ok (.aload_n 0, 1) := by decide +kernel
theorem dX5_ofLine_37 : decode cX5_ofLine 37 = .ok (.iload_n 1, 1) := by decide +kernel
theorem dX5_ofLine_38 : decode cX5_ofLine 38 = .ok (.iload_n 2, 1) := by decide +kernel
theorem dX5_ofLine_39 : decode cX5_ofLine 39 = .ok (.invokevirtual 213, 3) := by decide +kernel
theorem dX5_ofLine_42 : decode cX5_ofLine 42 = .ok (.ireturn, 1) := by decide +kernel
set_option maxRecDepth 20000 in
theorem ggX5_step_X5_needLine : GoodIn wsX5_step wsX5_needLine := goodIn_ca (goodIn_r _ [8, 9, 10, 11, 12, 13, 7, 14, 15, 125, 126, 127, 128, 129, 130, 131, 132, 133, 134, 135, 136, 137, 138, 139, 140] (by decide +kernel) (by decide +kernel)) (goodIn_sub (fun _ h => List.mem_cons_of_mem _ (List.mem_append_right _ h)) (by decide +kernel))
set_option maxRecDepth 20000 in
theorem gX5_step_X5_needLine : GoodIn wsX5_step (wsV RX5 134 RX5 yX5_needLine wsX5_needLine) := goodIn_app (goodIn_of _ (by decide +kernel)) ggX5_step_X5_needLine
set_option maxRecDepth 20000 in
theorem ggX5_step_X5_makePlan : GoodIn wsX5_step wsX5_makePlan := goodIn_r _ [19, 3, 20, 21, 15, 22, 23, 24, 7, 25, 26, 27, 28, 29, 30, 31, 32, 33, 34, 35, 36, 37, 38, 39, 40, 41, 42, 43, 44, 45, 46, 47, 48, 49, 50, 51, 52, 53, 54, 55, 56, 57, 58, 59, 60, 61, 62, 63, 64, 65, 66, 67, 68, 69, 70, 71, 72, 73, 74, 75, 76, 77, 78, 79, 80, 81, 82, 83, 84, 85, 86, 87, 88, 89, 90, 91, 92, 93, 94, 95, 96, 97, 98, 99, 100, 101, 102, 103, 104, 105, 106, 107, 108, 109, 110, 111, 112, 113, 114, 115, 116, 117, 118, 119, 120, 121, 125, 126, 127, 128, 129, 130, 131, 132, 133, 141, 142, 143, 144, 145, 146, 134, 135, 136, 137, 138, 139, 140, 147, 148, 149, 150, 151, 152, 153, 154] (by decide +kernel) (by decide +kernel)
set_option maxRecDepth 20000 in
theorem gX5_step_X5_makePlan : GoodIn wsX5_step (wsV RX5 210 RX5 yX5_makePlan wsX5_makePlan) := goodIn_app (goodIn_of _ (by decide +kernel)) ggX5_step_X5_makePlan
set_option maxRecDepth 20000 in
theorem ggX5_step_X2_setOf : GoodIn wsX5_step wsX2_setOf := goodIn_r _ [124, 50, 109, 84, 7, 85, 147, 148, 149, 150, 151, 152, 153, 154] (by decide +kernel) (by decide +kernel)
set_option maxRecDepth 20000 in
theorem gX5_step_X2_setOf_n218 : GoodIn wsX5_step (wsX2_setOf) := ggX5_step_X2_setOf
theorem dX5_step_0 : decode cX5_step 0 = .ok (.aload_n 0, 1) := by decide +kernel
theorem dX5_step_1 : decode cX5_step 1 = .ok (.iload_n 1, 1) := by decide +kernel
theorem dX5_step_2 : decode cX5_step 2 = .ok (.invokevirtual 134, 3) := by decide +kernel
theorem dX5_step_5 : decode cX5_step 5 = .ok (.iload_n 2, 1) := by decide +kernel
theorem dX5_step_6 : decode cX5_step 6 = .ok (.ifCond .ge 13, 3) := by decide +kernel
theorem dX5_step_9 : decode cX5_step 9 = .ok (.new 54, 3) := by decide +kernel
theorem dX5_step_12 : decode cX5_step 12 = .ok (.dup, 1) := by decide +kernel
theorem dX5_step_13 : decode cX5_step 13 = .ok (.ldc 216, 2) := by decide +kernel
theorem dX5_step_15 : decode cX5_step 15 = .ok (.invokespecial 58, 3) := by decide +kernel
theorem dX5_step_18 : decode cX5_step 18 = .ok (.athrow, 1) := by decide +kernel
theorem dX5_step_19 : decode cX5_step 19 = .ok (.aload_n 0, 1) := by decide +kernel
theorem dX5_step_20 : decode cX5_step 20 = .ok (.iload_n 1, 1) := by decide +kernel
theorem dX5_step_21 : decode cX5_step 21 = .ok (.invokevirtual 210, 3) := by decide +kernel
theorem dX5_step_24 : decode cX5_step 24 = .ok (.aload_n 0, 1) := by decide +kernel
theorem dX5_step_25 : decode cX5_step 25 = .ok (.getfield 26, 3) := by decide +kernel
theorem dX5_step_28 : decode cX5_step 28 = .ok (.iload_n 2, 1) := by decide +kernel
theorem dX5_step_29 : decode cX5_step 29 = .ok (.invokevirtual 218, 3) := by decide +kernel
theorem dX5_step_32 : decode cX5_step 32 = .ok (.ireturn, 1) := by decide +kernel
set_option maxRecDepth 20000 in
theorem ggX5_sign_X5_signFact : GoodIn wsX5_sign wsX5_signFact := goodIn_r _ [7, 8, 9, 10, 11, 12, 13, 14, 15, 16, 17, 18, 6, 19, 20, 21, 22, 23, 24, 25, 26, 27, 28, 29, 30, 31, 32, 33, 34, 35, 36, 37, 38, 39, 40, 41, 42, 43, 44, 45, 46, 47, 48, 49, 50, 51, 52, 53, 54, 55, 56, 57, 58, 59, 60, 61, 62, 63, 64, 65, 66, 67, 68, 69, 70, 71, 72, 73, 74, 75, 76, 77, 78, 79, 80, 81, 82, 83, 84, 85, 86, 87, 88, 89, 90, 91, 92, 93, 94, 95, 96, 97, 98, 99, 100, 101, 102, 103, 104] (by decide +kernel) (by decide +kernel)
set_option maxRecDepth 20000 in
theorem gX5_sign_X5_signFact : GoodIn wsX5_sign (wsV RX5 242 RX5 yX5_signFact wsX5_signFact) := goodIn_app (goodIn_of _ (by decide +kernel)) ggX5_sign_X5_signFact
theorem dX5_sign_0 : decode cX5_sign 0 = .ok (.iload_n 1, 1) := by decide +kernel
theorem dX5_sign_1 : decode cX5_sign 1 = .ok (.ifCond .lt 9, 3) := by decide +kernel
theorem dX5_sign_4 : decode cX5_sign 4 = .ok (.iload_n 1, 1) := by decide +kernel
theorem dX5_sign_5 : decode cX5_sign 5 = .ok (.bipush 17, 2) := by decide +kernel
theorem dX5_sign_7 : decode cX5_sign 7 = .ok (.if_icmp .le 13, 3) := by decide +kernel
theorem dX5_sign_10 : decode cX5_sign 10 = .ok (.new 54, 3) := by decide +kernel
theorem dX5_sign_13 : decode cX5_sign 13 = .ok (.dup, 1) := by decide +kernel
theorem dX5_sign_14 : decode cX5_sign 14 = .ok (.ldc 240, 2) := by decide +kernel
theorem dX5_sign_16 : decode cX5_sign 16 = .ok (.invokespecial 58, 3) := by decide +kernel
theorem dX5_sign_19 : decode cX5_sign 19 = .ok (.athrow, 1) := by decide +kernel
theorem dX5_sign_20 : decode cX5_sign 20 = .ok (.aload_n 0, 1) := by decide +kernel
theorem dX5_sign_21 : decode cX5_sign 21 = .ok (.iload_n 1, 1) := by decide +kernel
theorem dX5_sign_22 : decode cX5_sign 22 = .ok (.invokevirtual 242, 3) := by decide +kernel
theorem dX5_sign_25 : decode cX5_sign 25 = .ok (.ireturn, 1) := by decide +kernel
set_option maxRecDepth 20000 in
theorem ggX5_isSound_X5_planIsTrue : GoodIn wsX5_isSound wsX5_planIsTrue := goodIn_r _ [8, 9, 10, 11, 12, 7, 13, 2, 14, 1, 15, 16, 17, 18, 19, 20, 21, 22, 23, 24, 25, 26, 27, 28, 29, 30, 31, 32, 33, 34, 35, 36, 37, 38, 39, 40, 41, 42, 43, 44, 45, 46, 47, 48, 49, 50, 51, 52, 53, 54, 55, 56, 57, 58, 59, 60, 61, 62, 63, 64, 65, 66, 67, 68, 69, 70, 71, 72, 73, 74, 75, 76, 77, 78, 79, 80, 81, 82, 83, 84, 85, 86, 87, 88, 89, 90, 91, 92, 93, 94, 95, 96, 97, 98, 99, 100, 101, 102, 103, 104, 105, 106, 107, 108, 109, 110, 111, 112, 113, 114, 115, 116, 117, 118, 119, 120, 121, 122, 123, 124, 125, 126, 127, 146, 147, 148, 149, 150, 151, 152, 153, 154, 162, 163, 164, 165, 166, 167, 168, 169, 170, 171, 172, 173, 174, 175, 155, 156, 157, 158, 159, 160, 161] (by decide +kernel) (by decide +kernel)
set_option maxRecDepth 20000 in
theorem gX5_isSound_X5_planIsTrue : GoodIn wsX5_isSound (wsV RX5 264 RX5 yX5_planIsTrue wsX5_planIsTrue) := goodIn_app (goodIn_of _ (by decide +kernel)) ggX5_isSound_X5_planIsTrue
set_option maxRecDepth 20000 in
theorem ggX5_isSound_X0_isTrue : GoodIn wsX5_isSound wsX0_isTrue := goodIn_r _ [130, 131, 132, 133, 77, 7, 78, 134, 135, 136, 49, 137, 138, 122, 123, 139, 48, 50, 51, 52, 53, 54, 170, 171, 172, 173, 174, 175] (by decide +kernel) (by decide +kernel)
set_option maxRecDepth 20000 in
theorem gX5_isSound_X0_isTrue_n267 : GoodIn wsX5_isSound (wsX0_isTrue) := ggX5_isSound_X0_isTrue
set_option maxRecDepth 20000 in
theorem ggX5_isSound_X3_isTrue : GoodIn wsX5_isSound wsX3_isTrue := goodIn_r _ [143, 144, 145, 176, 177, 178, 179, 180] (by decide +kernel) (by decide +kernel)
set_option maxRecDepth 20000 in
theorem gX5_isSound_X3_isTrue_n271 : GoodIn wsX5_isSound (wsX3_isTrue) := ggX5_isSound_X3_isTrue
theorem dX5_isSound_0 : decode cX5_isSound 0 = .ok (.iconst 0, 1) := by decide +kernel
theorem dX5_isSound_1 : decode cX5_isSound 1 = .ok (.istore_n 1, 1) := by decide +kernel
theorem dX5_isSound_2 : decode cX5_isSound 2 = .ok (.iload_n 1, 1) := by decide +kernel
theorem dX5_isSound_3 : decode cX5_isSound 3 = .ok (.aload_n 0, 1) := by decide +kernel
theorem dX5_isSound_4 : decode cX5_isSound 4 = .ok (.getfield 19, 3) := by decide +kernel
theorem dX5_isSound_7 : decode cX5_isSound 7 = .ok (.getfield 95, 3) := by decide +kernel
theorem dX5_isSound_10 : decode cX5_isSound 10 = .ok (.if_icmp .ge 19, 3) := by decide +kernel
theorem dX5_isSound_13 : decode cX5_isSound 13 = .ok (.aload_n 0, 1) := by decide +kernel
theorem dX5_isSound_14 : decode cX5_isSound 14 = .ok (.iload_n 1, 1) := by decide +kernel
theorem dX5_isSound_15 : decode cX5_isSound 15 = .ok (.invokevirtual 264, 3) := by decide +kernel
theorem dX5_isSound_18 : decode cX5_isSound 18 = .ok (.ifCond .ne 5, 3) := by decide +kernel
theorem dX5_isSound_21 : decode cX5_isSound 21 = .ok (.iconst 0, 1) := by decide +kernel
theorem dX5_isSound_22 : decode cX5_isSound 22 = .ok (.ireturn, 1) := by decide +kernel
theorem dX5_isSound_23 : decode cX5_isSound 23 = .ok (.iinc 1 1, 3) := by decide +kernel
theorem dX5_isSound_26 : decode cX5_isSound 26 = .ok (.goto (-24), 3) := by decide +kernel
theorem dX5_isSound_29 : decode cX5_isSound 29 = .ok (.aload_n 0, 1) := by decide +kernel
theorem dX5_isSound_30 : decode cX5_isSound 30 = .ok (.getfield 10, 3) := by decide +kernel
theorem dX5_isSound_33 : decode cX5_isSound 33 = .ok (.invokevirtual 267, 3) := by decide +kernel
theorem dX5_isSound_36 : decode cX5_isSound 36 = .ok (.ifCond .eq 17, 3) := by decide +kernel
theorem dX5_isSound_39 : decode cX5_isSound 39 = .ok (.aload_n 0, 1) := by decide +kernel
theorem dX5_isSound_40 : decode cX5_isSound 40 = .ok (.getfield 40, 3) := by decide +kernel
theorem dX5_isSound_43 : decode cX5_isSound 43 = .ok (.invokevirtual 271, 3) := by decide +kernel
theorem dX5_isSound_46 : decode cX5_isSound 46 = .ok (.ifCond .eq 7, 3) := by decide +kernel
theorem dX5_isSound_49 : decode cX5_isSound 49 = .ok (.iconst 1, 1) := by decide +kernel
theorem dX5_isSound_50 : decode cX5_isSound 50 = .ok (.goto 4, 3) := by decide +kernel
theorem dX5_isSound_53 : decode cX5_isSound 53 = .ok (.iconst 0, 1) := by decide +kernel
theorem dX5_isSound_54 : decode cX5_isSound 54 = .ok (.ireturn, 1) := by decide +kernel
set_option maxRecDepth 20000 in
theorem ggX5_digest_X5_signFact : GoodIn wsX5_digest wsX5_signFact := goodIn_r _ [9, 3, 10, 11, 4, 12, 13, 14, 15, 16, 17, 18, 8, 19, 20, 21, 22, 23, 24, 25, 26, 27, 28, 29, 30, 31, 32, 33, 34, 35, 36, 37, 38, 39, 40, 41, 42, 43, 44, 45, 46, 47, 48, 49, 50, 51, 52, 53, 54, 55, 56, 57, 58, 59, 60, 61, 62, 63, 64, 65, 66, 67, 68, 69, 70, 71, 72, 207, 208, 209, 210, 211, 212, 213, 214, 215, 216, 217, 218, 219, 220, 221, 222, 223, 224, 225, 226, 227, 228, 229, 230, 231, 232, 233, 234, 235, 236, 237, 238] (by decide +kernel) (by decide +kernel)
set_option maxRecDepth 20000 in
theorem gX5_digest_X5_signFact : GoodIn wsX5_digest (wsV RX5 242 RX5 yX5_signFact wsX5_signFact) := goodIn_app (goodIn_of _ (by decide +kernel)) ggX5_digest_X5_signFact
set_option maxRecDepth 20000 in
theorem ggX5_digest_X5_columnFact : GoodIn wsX5_digest wsX5_columnFact := goodIn_r _ [76, 3, 77, 78, 8, 79, 80, 55, 56, 81, 82, 83, 84, 85, 86, 87, 207, 208, 209, 210, 211, 212, 213, 214, 215, 216, 217, 218, 219, 220, 221] (by decide +kernel) (by decide +kernel)
set_option maxRecDepth 20000 in
theorem gX5_digest_X5_columnFact : GoodIn wsX5_digest (wsV RX5 205 RX5 yX5_columnFact wsX5_columnFact) := goodIn_app (goodIn_of _ (by decide +kernel)) ggX5_digest_X5_columnFact
set_option maxRecDepth 20000 in
theorem ggX5_digest_X5_addLineTo : GoodIn wsX5_digest wsX5_addLineTo := goodIn_r _ [91, 2, 92, 93, 94, 95, 8, 96, 3, 10, 4, 97, 98, 99, 100, 24, 25, 26, 27, 101, 102, 103, 104, 28, 29, 30, 31, 32, 33, 34, 35, 36, 37, 38, 39, 105, 106, 107, 108, 109, 110, 111, 112, 113, 114, 44, 115, 116, 117, 118, 119, 120, 121, 122, 123, 124, 125, 126, 127, 78, 79, 128, 129, 130, 131, 132, 133, 82, 83, 84, 85, 86, 87, 55, 56, 134, 135, 136, 137, 20, 21, 22, 23, 40, 41, 42, 138, 139, 140, 141, 142, 143, 144, 145, 146, 147, 148, 149, 150, 151, 152, 153, 154, 155, 156, 157, 158, 159, 160, 161, 162, 163, 164, 165, 166, 80, 167, 168, 169, 170, 171, 172, 173, 174, 175, 176, 177, 178, 179, 180, 181, 16, 17, 18, 19, 11, 207, 208, 209, 210, 211, 212, 213, 214, 215, 216, 217, 218, 219, 220, 221, 222, 223, 224, 225, 226, 227, 228, 239, 240, 241, 242, 243, 244, 245, 246] (by decide +kernel) (by decide +kernel)
set_option maxRecDepth 20000 in
theorem gX5_digest_X5_addLineTo : GoodIn wsX5_digest (wsV RX5 276 RX5 yX5_addLineTo wsX5_addLineTo) := goodIn_app (goodIn_of _ (by decide +kernel)) ggX5_digest_X5_addLineTo
set_option maxRecDepth 20000 in
theorem ggX5_digest_X5_isSound : GoodIn wsX5_digest wsX5_isSound := goodIn_r _ [185, 4, 3, 15, 186, 187, 188, 8, 189, 92, 93, 94, 95, 96, 10, 97, 98, 99, 100, 24, 25, 26, 27, 101, 102, 103, 104, 28, 29, 30, 31, 32, 33, 34, 35, 36, 37, 38, 39, 105, 106, 107, 108, 109, 110, 111, 112, 113, 114, 44, 115, 116, 117, 118, 119, 120, 121, 122, 123, 124, 125, 126, 127, 78, 79, 128, 129, 130, 131, 132, 133, 82, 83, 84, 85, 86, 87, 55, 56, 134, 135, 136, 137, 20, 21, 22, 23, 40, 41, 42, 138, 139, 140, 141, 142, 143, 144, 145, 146, 147, 148, 149, 150, 151, 152, 153, 154, 155, 156, 157, 158, 159, 160, 161, 162, 175, 176, 177, 190, 191, 192, 193, 53, 54, 194, 195, 196, 197, 198, 199, 200, 47, 201, 202, 48, 49, 50, 51, 52, 203, 204, 67, 205, 206, 71, 70, 207, 208, 209, 210, 211, 212, 213, 214, 215, 222, 223, 224, 225, 226, 227, 228, 239, 240, 241, 242, 243, 244, 245, 246, 216, 217, 218, 219, 220, 221, 234, 235, 236, 237, 238] (by decide +kernel) (by decide +kernel)
set_option maxRecDepth 20000 in
theorem gX5_digest_X5_isSound : GoodIn wsX5_digest (wsV RX5 280 RX5 yX5_isSound wsX5_isSound) := goodIn_app (goodIn_of _ (by decide +kernel)) ggX5_digest_X5_isSound
theorem dX5_digest_0 : decode cX5_digest 0 = .ok (.ldc2_w 272, 3) := by decide +kernel
theorem dX5_digest_3 : decode cX5_digest 3 = .ok (.lstore_n 1, 1) := by decide +kernel
theorem dX5_digest_4 : decode cX5_digest 4 = .ok (.iconst 0, 1) := by decide +kernel
theorem dX5_digest_5 : decode cX5_digest 5 = .ok (.istore_n 3, 1) := by decide +kernel
theorem dX5_digest_6 : decode cX5_digest 6 = .ok (.iload_n 3, 1) := by decide +kernel
theorem dX5_digest_7 : decode cX5_digest 7 = .ok (.bipush 17, 2) := by decide +kernel
theorem dX5_digest_9 : decode cX5_digest 9 = .ok (.if_icmp .gt 22, 3) := by decide +kernel
theorem dX5_digest_12 : decode cX5_digest 12 = .ok (.lload_n 1, 1) := by decide +kernel
theorem dX5_digest_13 : decode cX5_digest 13 = .ok (.ldc2_w 274, 3) := by decide +kernel
theorem dX5_digest_16 : decode cX5_digest 16 = .ok (.lmul, 1) := by decide +kernel
theorem dX5_digest_17 : decode cX5_digest 17 = .ok (.aload_n 0, 1) := by decide +kernel
theorem dX5_digest_18 : decode cX5_digest 18 = .ok (.iload_n 3, 1) := by decide +kernel
theorem dX5_digest_19 : decode cX5_digest 19 = .ok (.invokevirtual 242, 3) := by decide +kernel
theorem dX5_digest_22 : decode cX5_digest 22 = .ok (.i2l, 1) := by decide +kernel
theorem dX5_digest_23 : decode cX5_digest 23 = .ok (.ladd, 1) := by decide +kernel
theorem dX5_digest_24 : decode cX5_digest 24 = .ok (.lstore_n 1, 1) := by decide +kernel
theorem dX5_digest_25 : decode cX5_digest 25 = .ok (.iinc 3 1, 3) := by decide +kernel
theorem dX5_digest_28 : decode cX5_digest 28 = .ok (.goto (-22), 3) := by decide +kernel
theorem dX5_digest_31 : decode cX5_digest 31 = .ok (.iconst 0, 1) := by decide +kernel
theorem dX5_digest_32 : decode cX5_digest 32 = .ok (.istore_n 3, 1) := by decide +kernel
theorem dX5_digest_33 : decode cX5_digest 33 = .ok (.iload_n 3, 1) := by decide +kernel
theorem dX5_digest_34 : decode cX5_digest 34 = .ok (.aload_n 0, 1) := by decide +kernel
theorem dX5_digest_35 : decode cX5_digest 35 = .ok (.getfield 10, 3) := by decide +kernel
theorem dX5_digest_38 : decode cX5_digest 38 = .ok (.getfield 61, 3) := by decide +kernel
theorem dX5_digest_41 : decode cX5_digest 41 = .ok (.if_icmp .ge 39, 3) := by decide +kernel
theorem dX5_digest_44 : decode cX5_digest 44 = .ok (.iconst 0, 1) := by decide +kernel
theorem dX5_digest_45 : decode cX5_digest 45 = .ok (.istore 4, 2) := by decide +kernel
theorem dX5_digest_47 : decode cX5_digest 47 = .ok (.iload 4, 2) := by decide +kernel
theorem dX5_digest_49 : decode cX5_digest 49 = .ok (.iconst 2, 1) := by decide +kernel
theorem dX5_digest_50 : decode cX5_digest 50 = .ok (.if_icmp .gt 24, 3) := by decide +kernel
theorem dX5_digest_53 : decode cX5_digest 53 = .ok (.lload_n 1, 1) := by decide +kernel
theorem dX5_digest_54 : decode cX5_digest 54 = .ok (.ldc2_w 274, 3) := by decide +kernel
theorem dX5_digest_57 : decode cX5_digest 57 = .ok (.lmul, 1) := by decide +kernel
theorem dX5_digest_58 : decode cX5_digest 58 = .ok (.aload_n 0, 1) := by decide +kernel
theorem dX5_digest_59 : decode cX5_digest 59 = .ok (.iload_n 3, 1) := by decide +kernel
theorem dX5_digest_60 : decode cX5_digest 60 = .ok (.iload 4, 2) := by decide +kernel
theorem dX5_digest_62 : decode cX5_digest 62 = .ok (.invokevirtual 205, 3) := by decide +kernel
theorem dX5_digest_65 : decode cX5_digest 65 = .ok (.i2l, 1) := by decide +kernel
theorem dX5_digest_66 : decode cX5_digest 66 = .ok (.ladd, 1) := by decide +kernel
theorem dX5_digest_67 : decode cX5_digest 67 = .ok (.lstore_n 1, 1) := by decide +kernel
theorem dX5_digest_68 : decode cX5_digest 68 = .ok (.iinc 4 1, 3) := by decide +kernel
theorem dX5_digest_71 : decode cX5_digest 71 = .ok (.goto (-24), 3) := by decide +kernel
theorem dX5_digest_74 : decode cX5_digest 74 = .ok (.iinc 3 1, 3) := by decide +kernel
theorem dX5_digest_77 : decode cX5_digest 77 = .ok (.goto (-44), 3) := by decide +kernel
theorem dX5_digest_80 : decode cX5_digest 80 = .ok (.iconst 0, 1) := by decide +kernel
theorem dX5_digest_81 : decode cX5_digest 81 = .ok (.istore_n 3, 1) := by decide +kernel
theorem dX5_digest_82 : decode cX5_digest 82 = .ok (.iload_n 3, 1) := by decide +kernel
theorem dX5_digest_83 : decode cX5_digest 83 = .ok (.aload_n 0, 1) := by decide +kernel
theorem dX5_digest_84 : decode cX5_digest 84 = .ok (.getfield 19, 3) := by decide +kernel
theorem dX5_digest_87 : decode cX5_digest 87 = .ok (.getfield 95, 3) := by decide +kernel
theorem dX5_digest_90 : decode cX5_digest 90 = .ok (.if_icmp .ge 16, 3) := by decide +kernel
theorem dX5_digest_93 : decode cX5_digest 93 = .ok (.aload_n 0, 1) := by decide +kernel
theorem dX5_digest_94 : decode cX5_digest 94 = .ok (.lload_n 1, 1) := by decide +kernel
theorem dX5_digest_95 : decode cX5_digest 95 = .ok (.iload_n 3, 1) := by decide +kernel
theorem dX5_digest_96 : decode cX5_digest 96 = .ok (.invokevirtual 276, 3) := by decide +kernel
theorem dX5_digest_99 : decode cX5_digest 99 = .ok (.lstore_n 1, 1) := by decide +kernel
theorem dX5_digest_100 : decode cX5_digest 100 = .ok (.iinc 3 1, 3) := by decide +kernel
theorem dX5_digest_103 : decode cX5_digest 103 = .ok (.goto (-21), 3) := by decide +kernel
theorem dX5_digest_106 : decode cX5_digest 106 = .ok (.lload_n 1, 1) := by decide +kernel
theorem dX5_digest_107 : decode cX5_digest 107 = .ok (.ldc2_w 274, 3) := by decide +kernel
theorem dX5_digest_110 : decode cX5_digest 110 = .ok (.lmul, 1) := by decide +kernel
theorem dX5_digest_111 : decode cX5_digest 111 = .ok (.aload_n 0, 1) := by decide +kernel
theorem dX5_digest_112 : decode cX5_digest 112 = .ok (.invokevirtual 280, 3) := by decide +kernel
theorem dX5_digest_115 : decode cX5_digest 115 = .ok (.ifCond .eq 7, 3) := by decide +kernel
theorem dX5_digest_118 : decode cX5_digest 118 = .ok (.iconst 1, 1) := by decide +kernel
theorem dX5_digest_119 : decode cX5_digest 119 = .ok (.goto 4, 3) := by decide +kernel
theorem dX5_digest_122 : decode cX5_digest 122 = .ok (.iconst 0, 1) := by decide +kernel
theorem dX5_digest_123 : decode cX5_digest 123 = .ok (.i2l, 1) := by decide +kernel
theorem dX5_digest_124 : decode cX5_digest 124 = .ok (.ladd, 1) := by decide +kernel
theorem dX5_digest_125 : decode cX5_digest 125 = .ok (.lreturn, 1) := by decide +kernel
theorem dX5_needColumn_0 : decode cX5_needColumn 0 = .ok (.iload_n 1, 1) := by decide +kernel
theorem dX5_needColumn_1 : decode cX5_needColumn 1 = .ok (.ifCond .lt 14, 3) := by decide +kernel
theorem dX5_needColumn_4 : decode cX5_needColumn 4 = .ok (.iload_n 1, 1) := by decide +kernel
theorem dX5_needColumn_5 : decode cX5_needColumn 5 = .ok (.aload_n 0, 1) := by decide +kernel
theorem dX5_needColumn_6 : decode cX5_needColumn 6 = .ok (.getfield 10, 3) := by decide +kernel
theorem dX5_needColumn_9 : decode cX5_needColumn 9 = .ok (.getfield 61, 3) := by decide +kernel
theorem dX5_needColumn_12 : decode cX5_needColumn 12 = .ok (.if_icmp .lt 14, 3) := by decide +kernel
theorem dX5_needColumn_15 : decode cX5_needColumn 15 = .ok (.new 224, 3) := by decide +kernel
theorem dX5_needColumn_18 : decode cX5_needColumn 18 = .ok (.dup, 1) := by decide +kernel
theorem dX5_needColumn_19 : decode cX5_needColumn 19 = .ok (.ldc_w 283, 3) := by decide +kernel
theorem dX5_needColumn_22 : decode cX5_needColumn 22 = .ok (.invokespecial 228, 3) := by decide +kernel
theorem dX5_needColumn_25 : decode cX5_needColumn 25 = .ok (.athrow, 1) := by decide +kernel
theorem dX5_needColumn_26 : decode cX5_needColumn 26 = .ok (.return_, 1) := by decide +kernel
set_option maxRecDepth 20000 in
theorem ggX5_needDot_X5_needColumn : GoodIn wsX5_needDot wsX5_needColumn := goodIn_ca (goodIn_r _ [7, 1, 2, 8, 12, 13, 14, 15, 16, 17, 18, 19, 20, 21, 22, 23, 24, 25, 26] (by decide +kernel) (by decide +kernel)) (goodIn_sub (fun _ h => List.mem_cons_of_mem _ (List.mem_append_right _ h)) (by decide +kernel))
set_option maxRecDepth 20000 in
theorem gX5_needDot_X5_needColumn : GoodIn wsX5_needDot (wsV RX5 120 RX5 yX5_needColumn wsX5_needColumn) := goodIn_app (goodIn_of _ (by decide +kernel)) ggX5_needDot_X5_needColumn
set_option maxRecDepth 20000 in
theorem ggX5_needDot_X5_isHeight : GoodIn wsX5_needDot wsX5_isHeight := goodIn_r _ [11] (by decide +kernel) (by decide +kernel)
set_option maxRecDepth 20000 in
theorem gX5_needDot_X5_isHeight : GoodIn wsX5_needDot (va_wsS RX5 221 yX5_isHeight wsX5_isHeight) := goodIn_app (goodIn_of _ (by decide +kernel)) ggX5_needDot_X5_isHeight
theorem dX5_needDot_0 : decode cX5_needDot 0 = .ok (.aload_n 0, 1) := by decide +kernel
theorem dX5_needDot_1 : decode cX5_needDot 1 = .ok (.iload_n 1, 1) := by decide +kernel
theorem dX5_needDot_2 : decode cX5_needDot 2 = .ok (.invokevirtual 120, 3) := by decide +kernel
theorem dX5_needDot_5 : decode cX5_needDot 5 = .ok (.iload_n 2, 1) := by decide +kernel
theorem dX5_needDot_6 : decode cX5_needDot 6 = .ok (.invokestatic 221, 3) := by decide +kernel
theorem dX5_needDot_9 : decode cX5_needDot 9 = .ok (.ifCond .ne 13, 3) := by decide +kernel
end
section
theorem dX5_needDot_12 : decode cX5_needDot 12 = .ok (.new 224, 3) := by decide +kernel
theorem dX5_needDot_15 : decode cX5_needDot 15 = .ok (.dup, 1) := by decide +kernel
theorem dX5_needDot_16 : decode cX5_needDot 16 = .ok (.ldc 226, 2) := by decide +kernel
theorem dX5_needDot_18 : decode cX5_needDot 18 = .ok (.invokespecial 228, 3) := by decide +kernel
theorem dX5_needDot_21 : decode cX5_needDot 21 = .ok (.athrow, 1) := by decide +kernel
theorem dX5_needDot_22 : decode cX5_needDot 22 = .ok (.return_, 1) := by decide +kernel
set_option maxRecDepth 20000 in
theorem ggX5_needLine_X5_isLine : GoodIn wsX5_needLine wsX5_isLine := goodIn_r _ [7, 8, 9, 10, 11, 12, 13, 14, 15, 16, 17, 18, 19, 20, 21, 22, 23, 24] (by decide +kernel) (by decide +kernel)
set_option maxRecDepth 20000 in
theorem gX5_needLine_X5_isLine : GoodIn wsX5_needLine (wsV RX5 157 RX5 yX5_isLine wsX5_isLine) := goodIn_app (goodIn_of _ (by decide +kernel)) ggX5_needLine_X5_isLine
theorem dX5_needLine_0 : decode cX5_needLine 0 = .ok (.aload_n 0, 1) := by decide +kernel
theorem dX5_needLine_1 : decode cX5_needLine 1 = .ok (.iload_n 1, 1) := by decide +kernel
theorem dX5_needLine_2 : decode cX5_needLine 2 = .ok (.invokevirtual 157, 3) := by decide +kernel
theorem dX5_needLine_5 : decode cX5_needLine 5 = .ok (.ifCond .ne 14, 3) := by decide +kernel
theorem dX5_needLine_8 : decode cX5_needLine 8 = .ok (.new 224, 3) := by decide +kernel
theorem dX5_needLine_11 : decode cX5_needLine 11 = .ok (.dup, 1) := by decide +kernel
theorem dX5_needLine_12 : decode cX5_needLine 12 = .ok (.ldc_w 285, 3) := by decide +kernel
theorem dX5_needLine_15 : decode cX5_needLine 15 = .ok (.invokespecial 228, 3) := by decide +kernel
theorem dX5_needLine_18 : decode cX5_needLine 18 = .ok (.athrow, 1) := by decide +kernel
theorem dX5_needLine_19 : decode cX5_needLine 19 = .ok (.return_, 1) := by decide +kernel
theorem dX5_isLine_0 : decode cX5_isLine 0 = .ok (.iload_n 1, 1) := by decide +kernel
theorem dX5_isLine_1 : decode cX5_isLine 1 = .ok (.ifCond .lt 18, 3) := by decide +kernel
theorem dX5_isLine_4 : decode cX5_isLine 4 = .ok (.iload_n 1, 1) := by decide +kernel
theorem dX5_isLine_5 : decode cX5_isLine 5 = .ok (.aload_n 0, 1) := by decide +kernel
theorem dX5_isLine_6 : decode cX5_isLine 6 = .ok (.getfield 19, 3) := by decide +kernel
theorem dX5_isLine_9 : decode cX5_isLine 9 = .ok (.getfield 95, 3) := by decide +kernel
theorem dX5_isLine_12 : decode cX5_isLine 12 = .ok (.if_icmp .ge 7, 3) := by decide +kernel
theorem dX5_isLine_15 : decode cX5_isLine 15 = .ok (.iconst 1, 1) := by decide +kernel
theorem dX5_isLine_16 : decode cX5_isLine 16 = .ok (.goto 4, 3) := by decide +kernel
theorem dX5_isLine_19 : decode cX5_isLine 19 = .ok (.iconst 0, 1) := by decide +kernel
theorem dX5_isLine_20 : decode cX5_isLine 20 = .ok (.ireturn, 1) := by decide +kernel
theorem dX5_isHeight_0 : decode cX5_isHeight 0 = .ok (.iload_n 0, 1) := by decide +kernel
theorem dX5_isHeight_1 : decode cX5_isHeight 1 = .ok (.ifCond .lt 12, 3) := by decide +kernel
theorem dX5_isHeight_4 : decode cX5_isHeight 4 = .ok (.iload_n 0, 1) := by decide +kernel
theorem dX5_isHeight_5 : decode cX5_isHeight 5 = .ok (.iconst 5, 1) := by decide +kernel
theorem dX5_isHeight_6 : decode cX5_isHeight 6 = .ok (.if_icmp .ge 7, 3) := by decide +kernel
theorem dX5_isHeight_9 : decode cX5_isHeight 9 = .ok (.iconst 1, 1) := by decide +kernel
theorem dX5_isHeight_10 : decode cX5_isHeight 10 = .ok (.goto 4, 3) := by decide +kernel
theorem dX5_isHeight_13 : decode cX5_isHeight 13 = .ok (.iconst 0, 1) := by decide +kernel
theorem dX5_isHeight_14 : decode cX5_isHeight 14 = .ok (.ireturn, 1) := by decide +kernel
theorem dX5_isColumnSet_0 : decode cX5_isColumnSet 0 = .ok (.iload_n 0, 1) := by decide +kernel
theorem dX5_isColumnSet_1 : decode cX5_isColumnSet 1 = .ok (.ifCond .lt 13, 3) := by decide +kernel
theorem dX5_isColumnSet_4 : decode cX5_isColumnSet 4 = .ok (.iload_n 0, 1) := by decide +kernel
theorem dX5_isColumnSet_5 : decode cX5_isColumnSet 5 = .ok (.bipush 31, 2) := by decide +kernel
theorem dX5_isColumnSet_7 : decode cX5_isColumnSet 7 = .ok (.if_icmp .gt 7, 3) := by decide +kernel
theorem dX5_isColumnSet_10 : decode cX5_isColumnSet 10 = .ok (.iconst 1, 1) := by decide +kernel
theorem dX5_isColumnSet_11 : decode cX5_isColumnSet 11 = .ok (.goto 4, 3) := by decide +kernel
theorem dX5_isColumnSet_14 : decode cX5_isColumnSet 14 = .ok (.iconst 0, 1) := by decide +kernel
theorem dX5_isColumnSet_15 : decode cX5_isColumnSet 15 = .ok (.ireturn, 1) := by decide +kernel
set_option maxRecDepth 20000 in
theorem ggX5_columnFact_X5_setIn : GoodIn wsX5_columnFact wsX5_setIn := goodIn_r _ [5] (by decide +kernel) (by decide +kernel)
set_option maxRecDepth 20000 in
theorem gX5_columnFact_X5_setIn : GoodIn wsX5_columnFact (va_wsS RX5 291 yX5_setIn wsX5_setIn) := goodIn_app (goodIn_of _ (by decide +kernel)) ggX5_columnFact_X5_setIn
set_option maxRecDepth 20000 in
theorem ggX5_columnFact_X5_at : GoodIn wsX5_columnFact wsX5_at := goodIn_r _ [8] (by decide +kernel) (by decide +kernel)
set_option maxRecDepth 20000 in
theorem gX5_columnFact_X5_at : GoodIn wsX5_columnFact (va_wsS RX5 127 yX5_at wsX5_at) := goodIn_app (goodIn_of _ (by decide +kernel)) ggX5_columnFact_X5_at
set_option maxRecDepth 20000 in
theorem ggX5_columnFact_J6_bitCount_0f7a4 : GoodIn wsX5_columnFact wsJ6_bitCount_0f7a4 := goodIn_r _ [12, 13, 14, 15] (by decide +kernel) (by decide +kernel)
set_option maxRecDepth 20000 in
theorem gX5_columnFact_J6_bitCount_0f7a4 : GoodIn wsX5_columnFact (va_wsS RX5 297 yJ6_bitCount_0f7a4 wsJ6_bitCount_0f7a4) := goodIn_app (goodIn_of _ (by decide +kernel)) ggX5_columnFact_J6_bitCount_0f7a4
theorem dX5_columnFact_0 : decode cX5_columnFact 0 = .ok (.iload_n 2, 1) := by decide +kernel
theorem dX5_columnFact_1 : decode cX5_columnFact 1 = .ok (.ifCond .ne 15, 3) := by decide +kernel
theorem dX5_columnFact_4 : decode cX5_columnFact 4 = .ok (.aload_n 0, 1) := by decide +kernel
theorem dX5_columnFact_5 : decode cX5_columnFact 5 = .ok (.getfield 10, 3) := by decide +kernel
theorem dX5_columnFact_8 : decode cX5_columnFact 8 = .ok (.getfield 287, 3) := by decide +kernel
theorem dX5_columnFact_11 : decode cX5_columnFact 11 = .ok (.iload_n 1, 1) := by decide +kernel
theorem dX5_columnFact_12 : decode cX5_columnFact 12 = .ok (.invokestatic 291, 3) := by decide +kernel
theorem dX5_columnFact_15 : decode cX5_columnFact 15 = .ok (.ireturn, 1) := by decide +kernel
theorem dX5_columnFact_16 : decode cX5_columnFact 16 = .ok (.iload_n 2, 1) := by decide +kernel
theorem dX5_columnFact_17 : decode cX5_columnFact 17 = .ok (.iconst 1, 1) := by decide +kernel
theorem dX5_columnFact_18 : decode cX5_columnFact 18 = .ok (.if_icmp .ne 17, 3) := by decide +kernel
theorem dX5_columnFact_21 : decode cX5_columnFact 21 = .ok (.aload_n 0, 1) := by decide +kernel
theorem dX5_columnFact_22 : decode cX5_columnFact 22 = .ok (.getfield 10, 3) := by decide +kernel
theorem dX5_columnFact_25 : decode cX5_columnFact 25 = .ok (.getfield 123, 3) := by decide +kernel
theorem dX5_columnFact_28 : decode cX5_columnFact 28 = .ok (.iload_n 1, 1) := by decide +kernel
theorem dX5_columnFact_29 : decode cX5_columnFact 29 = .ok (.invokestatic 127, 3) := by decide +kernel
theorem dX5_columnFact_32 : decode cX5_columnFact 32 = .ok (.goto 17, 3) := by decide +kernel
theorem dX5_columnFact_35 : decode cX5_columnFact 35 = .ok (.aload_n 0, 1) := by decide +kernel
theorem dX5_columnFact_36 : decode cX5_columnFact 36 = .ok (.getfield 10, 3) := by decide +kernel
theorem dX5_columnFact_39 : decode cX5_columnFact 39 = .ok (.getfield 294, 3) := by decide +kernel
theorem dX5_columnFact_42 : decode cX5_columnFact 42 = .ok (.iload_n 1, 1) := by decide +kernel
theorem dX5_columnFact_43 : decode cX5_columnFact 43 = .ok (.invokestatic 291, 3) := by decide +kernel
theorem dX5_columnFact_46 : decode cX5_columnFact 46 = .ok (.invokestatic 297, 3) := by decide +kernel
theorem dX5_columnFact_49 : decode cX5_columnFact 49 = .ok (.ireturn, 1) := by decide +kernel
set_option maxRecDepth 20000 in
theorem ggX5_lineFact_X5_at : GoodIn wsX5_lineFact wsX5_at := goodIn_r _ [7] (by decide +kernel) (by decide +kernel)
set_option maxRecDepth 20000 in
theorem gX5_lineFact_X5_at : GoodIn wsX5_lineFact (va_wsS RX5 127 yX5_at wsX5_at) := goodIn_app (goodIn_of _ (by decide +kernel)) ggX5_lineFact_X5_at
set_option maxRecDepth 20000 in
theorem ggX5_lineFact_X5_bestOffset : GoodIn wsX5_lineFact wsX5_bestOffset := goodIn_r _ [11, 12, 13, 14, 6, 15, 1, 2, 16, 17, 18, 19, 20, 21, 22, 23, 24, 25, 26, 27, 28, 29, 30, 31, 55, 56, 57, 58, 59, 60, 61, 62, 63, 64, 65, 66, 67, 68, 69, 70, 71, 72, 73, 74, 75, 76] (by decide +kernel) (by decide +kernel)
set_option maxRecDepth 20000 in
theorem gX5_lineFact_X5_bestOffset : GoodIn wsX5_lineFact (wsV RX5 308 RX5 yX5_bestOffset wsX5_bestOffset) := goodIn_app (goodIn_of _ (by decide +kernel)) ggX5_lineFact_X5_bestOffset
set_option maxRecDepth 20000 in
theorem ggX5_lineFact_X5_leastHarm : GoodIn wsX5_lineFact wsX5_leastHarm := goodIn_r _ [35, 8, 9, 10, 6, 11, 12, 13, 14, 15, 1, 2, 16, 17, 18, 19, 20, 21, 22, 23, 24, 25, 26, 27, 28, 29, 30, 31, 55, 56, 57, 58, 59, 60, 61, 62, 63, 64, 65, 66, 67, 68, 69, 70, 71, 72, 73, 74, 75, 76] (by decide +kernel) (by decide +kernel)
set_option maxRecDepth 20000 in
theorem gX5_lineFact_X5_leastHarm : GoodIn wsX5_lineFact (wsV RX5 311 RX5 yX5_leastHarm wsX5_leastHarm) := goodIn_app (goodIn_of _ (by decide +kernel)) ggX5_lineFact_X5_leastHarm
set_option maxRecDepth 20000 in
theorem ggX5_lineFact_X5_distance : GoodIn wsX5_lineFact wsX5_distance := goodIn_r _ [39, 1, 12, 13, 14, 6, 15, 2, 20, 21, 22, 23, 24, 25, 26, 27, 28, 29, 30, 31, 40, 41, 42, 55, 56, 57, 58, 59, 60, 61, 62, 63, 64, 65, 66, 67, 68, 69, 70, 71, 72, 73, 74, 75, 76] (by decide +kernel) (by decide +kernel)
set_option maxRecDepth 20000 in
theorem gX5_lineFact_X5_distance : GoodIn wsX5_lineFact (wsV RX5 254 RX5 yX5_distance wsX5_distance) := goodIn_app (goodIn_of _ (by decide +kernel)) ggX5_lineFact_X5_distance
set_option maxRecDepth 20000 in
theorem ggX5_lineFact_X5_says : GoodIn wsX5_lineFact wsX5_says := goodIn_r _ [46, 36, 37, 38, 6, 39, 1, 12, 13, 14, 15, 2, 20, 21, 22, 23, 24, 25, 26, 27, 28, 29, 30, 31, 40, 41, 42, 55, 56, 57, 58, 59, 60, 61, 62, 63, 64, 65, 66, 67, 68, 69, 70, 71, 72, 73, 74, 75, 76] (by decide +kernel) (by decide +kernel)
set_option maxRecDepth 20000 in
theorem gX5_lineFact_X5_says : GoodIn wsX5_lineFact (wsV RX5 314 RX5 yX5_says wsX5_says) := goodIn_app (goodIn_of _ (by decide +kernel)) ggX5_lineFact_X5_says
set_option maxRecDepth 20000 in
theorem ggX5_lineFact_X2_flips : GoodIn wsX5_lineFact wsX2_flips := goodIn_r _ [50, 51, 52, 53, 54, 26, 27, 28, 29, 30, 31, 77, 78, 79, 80, 81, 82, 83, 84] (by decide +kernel) (by decide +kernel)
set_option maxRecDepth 20000 in
theorem gX5_lineFact_X2_flips_n321 : GoodIn wsX5_lineFact (wsX2_flips) := ggX5_lineFact_X2_flips
theorem dX5_lineFact_0 : decode cX5_lineFact 0 = .ok (.iload_n 2, 1) := by decide +kernel
theorem dX5_lineFact_1 : decode cX5_lineFact 1 = .ok (.tableswitch 121 0 6 #[43, 55, 67, 73, 79, 92, 113], 43) := by decide +kernel
theorem dX5_lineFact_44 : decode cX5_lineFact 44 = .ok (.aload_n 0, 1) := by decide +kernel
theorem dX5_lineFact_45 : decode cX5_lineFact 45 = .ok (.getfield 19, 3) := by decide +kernel
theorem dX5_lineFact_48 : decode cX5_lineFact 48 = .ok (.getfield 302, 3) := by decide +kernel
theorem dX5_lineFact_51 : decode cX5_lineFact 51 = .ok (.iload_n 1, 1) := by decide +kernel
theorem dX5_lineFact_52 : decode cX5_lineFact 52 = .ok (.invokestatic 127, 3) := by decide +kernel
theorem dX5_lineFact_55 : decode cX5_lineFact 55 = .ok (.ireturn, 1) := by decide +kernel
theorem dX5_lineFact_56 : decode cX5_lineFact 56 = .ok (.aload_n 0, 1) := by decide +kernel
theorem dX5_lineFact_57 : decode cX5_lineFact 57 = .ok (.getfield 19, 3) := by decide +kernel
theorem dX5_lineFact_60 : decode cX5_lineFact 60 = .ok (.getfield 305, 3) := by decide +kernel
theorem dX5_lineFact_63 : decode cX5_lineFact 63 = .ok (.iload_n 1, 1) := by decide +kernel
theorem dX5_lineFact_64 : decode cX5_lineFact 64 = .ok (.invokestatic 127, 3) := by decide +kernel
theorem dX5_lineFact_67 : decode cX5_lineFact 67 = .ok (.ireturn, 1) := by decide +kernel
theorem dX5_lineFact_68 : decode cX5_lineFact 68 = .ok (.aload_n 0, 1) := by decide +kernel
theorem dX5_lineFact_69 : decode cX5_lineFact 69 = .ok (.iload_n 1, 1) := by decide +kernel
theorem dX5_lineFact_70 : decode cX5_lineFact 70 = .ok (.invokevirtual 308, 3) := by decide +kernel
theorem dX5_lineFact_73 : decode cX5_lineFact 73 = .ok (.ireturn, 1) := by decide +kernel
theorem dX5_lineFact_74 : decode cX5_lineFact 74 = .ok (.aload_n 0, 1) := by decide +kernel
theorem dX5_lineFact_75 : decode cX5_lineFact 75 = .ok (.iload_n 1, 1) := by decide +kernel
theorem dX5_lineFact_76 : decode cX5_lineFact 76 = .ok (.invokevirtual 311, 3) := by decide +kernel
theorem dX5_lineFact_79 : decode cX5_lineFact 79 = .ok (.ireturn, 1) := by decide +kernel
theorem dX5_lineFact_80 : decode cX5_lineFact 80 = .ok (.aload_n 0, 1) := by decide +kernel
theorem dX5_lineFact_81 : decode cX5_lineFact 81 = .ok (.aload_n 0, 1) := by decide +kernel
theorem dX5_lineFact_82 : decode cX5_lineFact 82 = .ok (.getfield 10, 3) := by decide +kernel
theorem dX5_lineFact_85 : decode cX5_lineFact 85 = .ok (.getfield 287, 3) := by decide +kernel
theorem dX5_lineFact_88 : decode cX5_lineFact 88 = .ok (.iload_n 1, 1) := by decide +kernel
theorem dX5_lineFact_89 : decode cX5_lineFact 89 = .ok (.invokevirtual 254, 3) := by decide +kernel
theorem dX5_lineFact_92 : decode cX5_lineFact 92 = .ok (.ireturn, 1) := by decide +kernel
theorem dX5_lineFact_93 : decode cX5_lineFact 93 = .ok (.aload_n 0, 1) := by decide +kernel
theorem dX5_lineFact_94 : decode cX5_lineFact 94 = .ok (.aload_n 0, 1) := by decide +kernel
theorem dX5_lineFact_95 : decode cX5_lineFact 95 = .ok (.getfield 10, 3) := by decide +kernel
theorem dX5_lineFact_98 : decode cX5_lineFact 98 = .ok (.getfield 287, 3) := by decide +kernel
theorem dX5_lineFact_101 : decode cX5_lineFact 101 = .ok (.iload_n 1, 1) := by decide +kernel
theorem dX5_lineFact_102 : decode cX5_lineFact 102 = .ok (.invokevirtual 314, 3) := by decide +kernel
theorem dX5_lineFact_105 : decode cX5_lineFact 105 = .ok (.ifCond .eq 7, 3) := by decide +kernel
theorem dX5_lineFact_108 : decode cX5_lineFact 108 = .ok (.iconst 1, 1) := by decide +kernel
theorem dX5_lineFact_109 : decode cX5_lineFact 109 = .ok (.goto 4, 3) := by decide +kernel
theorem dX5_lineFact_112 : decode cX5_lineFact 112 = .ok (.iconst 0, 1) := by decide +kernel
theorem dX5_lineFact_113 : decode cX5_lineFact 113 = .ok (.ireturn, 1) := by decide +kernel
theorem dX5_lineFact_114 : decode cX5_lineFact 114 = .ok (.aload_n 0, 1) := by decide +kernel
theorem dX5_lineFact_115 : decode cX5_lineFact 115 = .ok (.getfield 26, 3) := by decide +kernel
theorem dX5_lineFact_118 : decode cX5_lineFact 118 = .ok (.getfield 318, 3) := by decide +kernel
theorem dX5_lineFact_121 : decode cX5_lineFact 121 = .ok (.ireturn, 1) := by decide +kernel
theorem dX5_lineFact_122 : decode cX5_lineFact 122 = .ok (.aload_n 0, 1) := by decide +kernel
theorem dX5_lineFact_123 : decode cX5_lineFact 123 = .ok (.getfield 26, 3) := by decide +kernel
theorem dX5_lineFact_126 : decode cX5_lineFact 126 = .ok (.invokevirtual 321, 3) := by decide +kernel
theorem dX5_lineFact_129 : decode cX5_lineFact 129 = .ok (.ireturn, 1) := by decide +kernel
set_option maxRecDepth 20000 in
theorem ggX5_signFact_X5_readAs : GoodIn wsX5_signFact wsX5_readAs := goodIn_r _ [13, 4, 3, 14, 15, 16, 12, 17, 18, 19, 20, 21, 1, 22, 23, 24, 25, 26, 27, 28, 29, 30, 31, 32, 33, 34, 35, 36, 67, 68, 69, 70, 71, 72, 73, 74, 75, 82, 83, 84, 85, 86, 87, 88, 76, 77, 78, 79, 80, 81] (by decide +kernel) (by decide +kernel)
set_option maxRecDepth 20000 in
theorem gX5_signFact_X5_readAs : GoodIn wsX5_signFact (wsV RX5 324 RX5 yX5_readAs wsX5_readAs) := goodIn_app (goodIn_of _ (by decide +kernel)) ggX5_signFact_X5_readAs
set_option maxRecDepth 20000 in
theorem ggX5_signFact_J13_bitCount_95d88 : GoodIn wsX5_signFact wsJ13_bitCount_95d88 := goodIn_r _ [30, 31, 32, 33] (by decide +kernel) (by decide +kernel)
set_option maxRecDepth 20000 in
theorem gX5_signFact_J13_bitCount_95d88 : GoodIn wsX5_signFact (va_wsS RX5 328 yJ13_bitCount_95d88 wsJ13_bitCount_95d88) := goodIn_app (goodIn_of _ (by decide +kernel)) ggX5_signFact_J13_bitCount_95d88
set_option maxRecDepth 20000 in
theorem ggX5_signFact_X0_allFlips : GoodIn wsX5_signFact wsX0_allFlips := goodIn_r _ [40, 41, 42, 43, 44, 38, 45, 46, 47, 12, 48, 49, 50, 76, 77, 78, 79, 80, 81] (by decide +kernel) (by decide +kernel)
set_option maxRecDepth 20000 in
theorem gX5_signFact_X0_allFlips_n332 : GoodIn wsX5_signFact (wsX0_allFlips) := ggX5_signFact_X0_allFlips
set_option maxRecDepth 20000 in
theorem ggX5_signFact_X4_fact : GoodIn wsX5_signFact wsX4_fact := goodIn_r _ [54, 55, 56, 57, 58, 59, 89, 90, 91, 92, 93] (by decide +kernel) (by decide +kernel)
set_option maxRecDepth 20000 in
theorem gX5_signFact_X4_fact_n338 : GoodIn wsX5_signFact (wsX4_fact) := ggX5_signFact_X4_fact
set_option maxRecDepth 20000 in
theorem ggX5_signFact_X3_fact : GoodIn wsX5_signFact wsX3_fact := goodIn_r _ [63, 64, 65, 66, 94, 95, 96, 97, 98] (by decide +kernel) (by decide +kernel)
set_option maxRecDepth 20000 in
theorem gX5_signFact_X3_fact_n341 : GoodIn wsX5_signFact (wsX3_fact) := ggX5_signFact_X3_fact
theorem dX5_signFact_0 : decode cX5_signFact 0 = .ok (.iload_n 1, 1) := by decide +kernel
theorem dX5_signFact_1 : decode cX5_signFact 1 = .ok (.tableswitch 162 0 17 #[87, 95, 100, 105, 113, 121, 133, 144, 152, 162, 162, 162, 162, 162, 162, 162, 162, 157], 87) := by decide +kernel
theorem dX5_signFact_88 : decode cX5_signFact 88 = .ok (.aload_n 0, 1) := by decide +kernel
theorem dX5_signFact_89 : decode cX5_signFact 89 = .ok (.getfield 10, 3) := by decide +kernel
theorem dX5_signFact_92 : decode cX5_signFact 92 = .ok (.getfield 61, 3) := by decide +kernel
theorem dX5_signFact_95 : decode cX5_signFact 95 = .ok (.ireturn, 1) := by decide +kernel
theorem dX5_signFact_96 : decode cX5_signFact 96 = .ok (.aload_n 0, 1) := by decide +kernel
theorem dX5_signFact_97 : decode cX5_signFact 97 = .ok (.getfield 44, 3) := by decide +kernel
theorem dX5_signFact_100 : decode cX5_signFact 100 = .ok (.ireturn, 1) := by decide +kernel
theorem dX5_signFact_101 : decode cX5_signFact 101 = .ok (.aload_n 0, 1) := by decide +kernel
theorem dX5_signFact_102 : decode cX5_signFact 102 = .ok (.getfield 48, 3) := by decide +kernel
theorem dX5_signFact_105 : decode cX5_signFact 105 = .ok (.ireturn, 1) := by decide +kernel
theorem dX5_signFact_106 : decode cX5_signFact 106 = .ok (.aload_n 0, 1) := by decide +kernel
theorem dX5_signFact_107 : decode cX5_signFact 107 = .ok (.getfield 19, 3) := by decide +kernel
theorem dX5_signFact_110 : decode cX5_signFact 110 = .ok (.getfield 78, 3) := by decide +kernel
theorem dX5_signFact_113 : decode cX5_signFact 113 = .ok (.ireturn, 1) := by decide +kernel
theorem dX5_signFact_114 : decode cX5_signFact 114 = .ok (.aload_n 0, 1) := by decide +kernel
theorem dX5_signFact_115 : decode cX5_signFact 115 = .ok (.getfield 19, 3) := by decide +kernel
theorem dX5_signFact_118 : decode cX5_signFact 118 = .ok (.getfield 95, 3) := by decide +kernel
theorem dX5_signFact_121 : decode cX5_signFact 121 = .ok (.ireturn, 1) := by decide +kernel
theorem dX5_signFact_122 : decode cX5_signFact 122 = .ok (.aload_n 0, 1) := by decide +kernel
theorem dX5_signFact_123 : decode cX5_signFact 123 = .ok (.aload_n 0, 1) := by decide +kernel
theorem dX5_signFact_124 : decode cX5_signFact 124 = .ok (.getfield 10, 3) := by decide +kernel
theorem dX5_signFact_127 : decode cX5_signFact 127 = .ok (.getfield 287, 3) := by decide +kernel
theorem dX5_signFact_130 : decode cX5_signFact 130 = .ok (.invokevirtual 324, 3) := by decide +kernel
theorem dX5_signFact_133 : decode cX5_signFact 133 = .ok (.ireturn, 1) := by decide +kernel
theorem dX5_signFact_134 : decode cX5_signFact 134 = .ok (.aload_n 0, 1) := by decide +kernel
theorem dX5_signFact_135 : decode cX5_signFact 135 = .ok (.getfield 10, 3) := by decide +kernel
theorem dX5_signFact_138 : decode cX5_signFact 138 = .ok (.getfield 294, 3) := by decide +kernel
theorem dX5_signFact_141 : decode cX5_signFact 141 = .ok (.invokestatic 328, 3) := by decide +kernel
theorem dX5_signFact_144 : decode cX5_signFact 144 = .ok (.ireturn, 1) := by decide +kernel
theorem dX5_signFact_145 : decode cX5_signFact 145 = .ok (.aload_n 0, 1) := by decide +kernel
theorem dX5_signFact_146 : decode cX5_signFact 146 = .ok (.getfield 10, 3) := by decide +kernel
theorem dX5_signFact_149 : decode cX5_signFact 149 = .ok (.invokevirtual 332, 3) := by decide +kernel
theorem dX5_signFact_152 : decode cX5_signFact 152 = .ok (.ireturn, 1) := by decide +kernel
theorem dX5_signFact_153 : decode cX5_signFact 153 = .ok (.aload_n 0, 1) := by decide +kernel
theorem dX5_signFact_154 : decode cX5_signFact 154 = .ok (.getfield 335, 3) := by decide +kernel
theorem dX5_signFact_157 : decode cX5_signFact 157 = .ok (.ireturn, 1) := by decide +kernel
theorem dX5_signFact_158 : decode cX5_signFact 158 = .ok (.aload_n 0, 1) := by decide +kernel
theorem dX5_signFact_159 : decode cX5_signFact 159 = .ok (.getfield 51, 3) := by decide +kernel
theorem dX5_signFact_162 : decode cX5_signFact 162 = .ok (.ireturn, 1) := by decide +kernel
theorem dX5_signFact_163 : decode cX5_signFact 163 = .ok (.iload_n 1, 1) := by decide +kernel
theorem dX5_signFact_164 : decode cX5_signFact 164 = .ok (.bipush 13, 2) := by decide +kernel
theorem dX5_signFact_166 : decode cX5_signFact 166 = .ok (.if_icmp .gt 14, 3) := by decide +kernel
theorem dX5_signFact_169 : decode cX5_signFact 169 = .ok (.aload_n 0, 1) := by decide +kernel
theorem dX5_signFact_170 : decode cX5_signFact 170 = .ok (.getfield 33, 3) := by decide +kernel
theorem dX5_signFact_173 : decode cX5_signFact 173 = .ok (.iload_n 1, 1) := by decide +kernel
theorem dX5_signFact_174 : decode cX5_signFact 174 = .ok (.invokevirtual 338, 3) := by decide +kernel
theorem dX5_signFact_177 : decode cX5_signFact 177 = .ok (.goto 11, 3) := by decide +kernel
theorem dX5_signFact_180 : decode cX5_signFact 180 = .ok (.aload_n 0, 1) := by decide +kernel
theorem dX5_signFact_181 : decode cX5_signFact 181 = .ok (.getfield 40, 3) := by decide +kernel
theorem dX5_signFact_184 : decode cX5_signFact 184 = .ok (.iload_n 1, 1) := by decide +kernel
theorem dX5_signFact_185 : decode cX5_signFact 185 = .ok (.invokevirtual 341, 3) := by decide +kernel
theorem dX5_signFact_188 : decode cX5_signFact 188 = .ok (.ireturn, 1) := by decide +kernel
set_option maxRecDepth 20000 in
theorem ggX5_addLineTo_X5_makePlan : GoodIn wsX5_addLineTo wsX5_makePlan := goodIn_r _ [7, 2, 8, 9, 10, 11, 12, 13, 6, 14, 15, 16, 17, 18, 19, 20, 21, 22, 23, 24, 25, 26, 27, 28, 29, 30, 31, 32, 33, 34, 35, 36, 37, 38, 39, 40, 41, 42, 43, 44, 45, 46, 47, 48, 49, 50, 51, 52, 53, 54, 55, 56, 57, 58, 59, 60, 61, 62, 63, 64, 65, 66, 67, 68, 69, 70, 71, 72, 73, 74, 75, 76, 77, 78, 79, 80, 81, 82, 83, 84, 85, 86, 87, 88, 89, 90, 91, 92, 93, 94, 95, 96, 97, 98, 99, 100, 101, 102, 103, 104, 105, 106, 107, 108, 109, 110, 136, 137, 138, 139, 140, 141, 142, 143, 144, 145, 146, 147, 148, 149, 150, 151, 152, 153, 154, 155, 156, 157, 158, 159, 160, 161, 162, 163, 164, 165] (by decide +kernel) (by decide +kernel)
set_option maxRecDepth 20000 in
theorem gX5_addLineTo_X5_makePlan : GoodIn wsX5_addLineTo (wsV RX5 210 RX5 yX5_makePlan wsX5_makePlan) := goodIn_app (goodIn_of _ (by decide +kernel)) ggX5_addLineTo_X5_makePlan
set_option maxRecDepth 20000 in
theorem ggX5_addLineTo_X5_lineFact : GoodIn wsX5_addLineTo wsX5_lineFact := goodIn_r _ [114, 10, 8, 2, 115, 73, 6, 74, 11, 12, 13, 14, 15, 16, 17, 18, 19, 20, 21, 22, 23, 24, 25, 26, 27, 28, 29, 30, 31, 32, 33, 34, 116, 117, 118, 119, 79, 80, 81, 82, 83, 84, 85, 75, 76, 77, 78, 120, 36, 121, 122, 39, 54, 55, 123, 136, 137, 138, 139, 140, 141, 142, 143, 144, 151, 152, 153, 154, 155, 156, 157, 145, 146, 147, 148, 149, 150, 158, 159, 160, 161, 162, 163, 164, 165] (by decide +kernel) (by decide +kernel)
set_option maxRecDepth 20000 in
theorem gX5_addLineTo_X5_lineFact : GoodIn wsX5_addLineTo (wsV RX5 213 RX5 yX5_lineFact wsX5_lineFact) := goodIn_app (goodIn_of _ (by decide +kernel)) ggX5_addLineTo_X5_lineFact
set_option maxRecDepth 20000 in
theorem ggX5_addLineTo_X2_setOf : GoodIn wsX5_addLineTo wsX2_setOf := goodIn_r _ [126, 39, 98, 73, 6, 74, 158, 159, 160, 161, 162, 163, 164, 165] (by decide +kernel) (by decide +kernel)
set_option maxRecDepth 20000 in
theorem gX5_addLineTo_X2_setOf_n218 : GoodIn wsX5_addLineTo (wsX2_setOf) := ggX5_addLineTo_X2_setOf
set_option maxRecDepth 20000 in
theorem ggX5_addLineTo_X5_readOfGoal : GoodIn wsX5_addLineTo wsX5_readOfGoal := goodIn_r _ [130, 11, 12, 13, 6, 14, 15, 16, 17, 18, 10, 8, 19, 20, 21, 22, 23, 24, 25, 26, 27, 28, 29, 30, 31, 32, 33, 34, 40, 41, 42, 43, 44, 45, 46, 47, 48, 49, 50, 131, 132, 133, 134, 135, 79, 80, 81, 82, 83, 84, 85, 136, 137, 138, 139, 140, 141, 142, 143, 144, 151, 152, 153, 154, 155, 156, 157, 145, 146, 147, 148, 149, 150] (by decide +kernel) (by decide +kernel)
set_option maxRecDepth 20000 in
theorem gX5_addLineTo_X5_readOfGoal : GoodIn wsX5_addLineTo (wsV RX5 261 RX5 yX5_readOfGoal wsX5_readOfGoal) := goodIn_app (goodIn_of _ (by decide +kernel)) ggX5_addLineTo_X5_readOfGoal
theorem dX5_addLineTo_0 : decode cX5_addLineTo 0 = .ok (.lload_n 1, 1) := by decide +kernel
theorem dX5_addLineTo_1 : decode cX5_addLineTo 1 = .ok (.lstore 4, 2) := by decide +kernel
theorem dX5_addLineTo_3 : decode cX5_addLineTo 3 = .ok (.aload_n 0, 1) := by decide +kernel
theorem dX5_addLineTo_4 : decode cX5_addLineTo 4 = .ok (.iload_n 3, 1) := by decide +kernel
theorem dX5_addLineTo_5 : decode cX5_addLineTo 5 = .ok (.invokevirtual 210, 3) := by decide +kernel
theorem dX5_addLineTo_8 : decode cX5_addLineTo 8 = .ok (.iconst 1, 1) := by decide +kernel
theorem dX5_addLineTo_9 : decode cX5_addLineTo 9 = .ok (.istore 6, 2) := by decide +kernel
theorem dX5_addLineTo_11 : decode cX5_addLineTo 11 = .ok (.iload 6, 2) := by decide +kernel
theorem dX5_addLineTo_13 : decode cX5_addLineTo 13 = .ok (.bipush 7, 2) := by decide +kernel
theorem dX5_addLineTo_15 : decode cX5_addLineTo 15 = .ok (.if_icmp .gt 26, 3) := by decide +kernel
theorem dX5_addLineTo_18 : decode cX5_addLineTo 18 = .ok (.lload 4, 2) := by decide +kernel
theorem dX5_addLineTo_20 : decode cX5_addLineTo 20 = .ok (.ldc2_w 274, 3) := by decide +kernel
theorem dX5_addLineTo_23 : decode cX5_addLineTo 23 = .ok (.lmul, 1) := by decide +kernel
theorem dX5_addLineTo_24 : decode cX5_addLineTo 24 = .ok (.aload_n 0, 1) := by decide +kernel
theorem dX5_addLineTo_25 : decode cX5_addLineTo 25 = .ok (.iload_n 3, 1) := by decide +kernel
theorem dX5_addLineTo_26 : decode cX5_addLineTo 26 = .ok (.iload 6, 2) := by decide +kernel
theorem dX5_addLineTo_28 : decode cX5_addLineTo 28 = .ok (.invokevirtual 213, 3) := by decide +kernel
theorem dX5_addLineTo_31 : decode cX5_addLineTo 31 = .ok (.i2l, 1) := by decide +kernel
theorem dX5_addLineTo_32 : decode cX5_addLineTo 32 = .ok (.ladd, 1) := by decide +kernel
theorem dX5_addLineTo_33 : decode cX5_addLineTo 33 = .ok (.lstore 4, 2) := by decide +kernel
theorem dX5_addLineTo_35 : decode cX5_addLineTo 35 = .ok (.iinc 6 1, 3) := by decide +kernel
theorem dX5_addLineTo_38 : decode cX5_addLineTo 38 = .ok (.goto (-27), 3) := by decide +kernel
theorem dX5_addLineTo_41 : decode cX5_addLineTo 41 = .ok (.lload 4, 2) := by decide +kernel
theorem dX5_addLineTo_43 : decode cX5_addLineTo 43 = .ok (.ldc2_w 274, 3) := by decide +kernel
theorem dX5_addLineTo_46 : decode cX5_addLineTo 46 = .ok (.lmul, 1) := by decide +kernel
theorem dX5_addLineTo_47 : decode cX5_addLineTo 47 = .ok (.aload_n 0, 1) := by decide +kernel
theorem dX5_addLineTo_48 : decode cX5_addLineTo 48 = .ok (.getfield 26, 3) := by decide +kernel
theorem dX5_addLineTo_51 : decode cX5_addLineTo 51 = .ok (.iconst 0, 1) := by decide +kernel
theorem dX5_addLineTo_52 : decode cX5_addLineTo 52 = .ok (.invokevirtual 218, 3) := by decide +kernel
theorem dX5_addLineTo_55 : decode cX5_addLineTo 55 = .ok (.i2l, 1) := by decide +kernel
theorem dX5_addLineTo_56 : decode cX5_addLineTo 56 = .ok (.ladd, 1) := by decide +kernel
theorem dX5_addLineTo_57 : decode cX5_addLineTo 57 = .ok (.lstore 4, 2) := by decide +kernel
theorem dX5_addLineTo_59 : decode cX5_addLineTo 59 = .ok (.lload 4, 2) := by decide +kernel
theorem dX5_addLineTo_61 : decode cX5_addLineTo 61 = .ok (.ldc2_w 274, 3) := by decide +kernel
theorem dX5_addLineTo_64 : decode cX5_addLineTo 64 = .ok (.lmul, 1) := by decide +kernel
theorem dX5_addLineTo_65 : decode cX5_addLineTo 65 = .ok (.aload_n 0, 1) := by decide +kernel
theorem dX5_addLineTo_66 : decode cX5_addLineTo 66 = .ok (.getfield 26, 3) := by decide +kernel
theorem dX5_addLineTo_69 : decode cX5_addLineTo 69 = .ok (.iconst 1, 1) := by decide +kernel
theorem dX5_addLineTo_70 : decode cX5_addLineTo 70 = .ok (.invokevirtual 218, 3) := by decide +kernel
theorem dX5_addLineTo_73 : decode cX5_addLineTo 73 = .ok (.i2l, 1) := by decide +kernel
theorem dX5_addLineTo_74 : decode cX5_addLineTo 74 = .ok (.ladd, 1) := by decide +kernel
theorem dX5_addLineTo_75 : decode cX5_addLineTo 75 = .ok (.lstore 4, 2) := by decide +kernel
theorem dX5_addLineTo_77 : decode cX5_addLineTo 77 = .ok (.lload 4, 2) := by decide +kernel
theorem dX5_addLineTo_79 : decode cX5_addLineTo 79 = .ok (.ldc2_w 274, 3) := by decide +kernel
theorem dX5_addLineTo_82 : decode cX5_addLineTo 82 = .ok (.lmul, 1) := by decide +kernel
theorem dX5_addLineTo_83 : decode cX5_addLineTo 83 = .ok (.aload_n 0, 1) := by decide +kernel
theorem dX5_addLineTo_84 : decode cX5_addLineTo 84 = .ok (.iload_n 3, 1) := by decide +kernel
theorem dX5_addLineTo_85 : decode cX5_addLineTo 85 = .ok (.invokevirtual 261, 3) := by decide +kernel
theorem dX5_addLineTo_88 : decode cX5_addLineTo 88 = .ok (.i2l, 1) := by decide +kernel
theorem dX5_addLineTo_89 : decode cX5_addLineTo 89 = .ok (.ladd, 1) := by decide +kernel
theorem dX5_addLineTo_90 : decode cX5_addLineTo 90 = .ok (.lreturn, 1) := by decide +kernel
theorem dX5_lastOffset_0 : decode cX5_lastOffset 0 = .ok (.iload_n 1, 1) := by decide +kernel
theorem dX5_lastOffset_1 : decode cX5_lastOffset 1 = .ok (.ifCond .lt 35, 3) := by decide +kernel
theorem dX5_lastOffset_4 : decode cX5_lastOffset 4 = .ok (.iload_n 1, 1) := by decide +kernel
theorem dX5_lastOffset_5 : decode cX5_lastOffset 5 = .ok (.aload_n 0, 1) := by decide +kernel
theorem dX5_lastOffset_6 : decode cX5_lastOffset 6 = .ok (.getfield 19, 3) := by decide +kernel
theorem dX5_lastOffset_9 : decode cX5_lastOffset 9 = .ok (.getfield 305, 3) := by decide +kernel
theorem dX5_lastOffset_12 : decode cX5_lastOffset 12 = .ok (.arraylength, 1) := by decide +kernel
theorem dX5_lastOffset_13 : decode cX5_lastOffset 13 = .ok (.if_icmp .ge 23, 3) := by decide +kernel
theorem dX5_lastOffset_16 : decode cX5_lastOffset 16 = .ok (.aload_n 0, 1) := by decide +kernel
theorem dX5_lastOffset_17 : decode cX5_lastOffset 17 = .ok (.getfield 10, 3) := by decide +kernel
theorem dX5_lastOffset_20 : decode cX5_lastOffset 20 = .ok (.getfield 61, 3) := by decide +kernel
theorem dX5_lastOffset_23 : decode cX5_lastOffset 23 = .ok (.aload_n 0, 1) := by decide +kernel
theorem dX5_lastOffset_24 : decode cX5_lastOffset 24 = .ok (.getfield 19, 3) := by decide +kernel
theorem dX5_lastOffset_27 : decode cX5_lastOffset 27 = .ok (.getfield 305, 3) := by decide +kernel
theorem dX5_lastOffset_30 : decode cX5_lastOffset 30 = .ok (.iload_n 1, 1) := by decide +kernel
theorem dX5_lastOffset_31 : decode cX5_lastOffset 31 = .ok (.iaload, 1) := by decide +kernel
theorem dX5_lastOffset_32 : decode cX5_lastOffset 32 = .ok (.isub, 1) := by decide +kernel
theorem dX5_lastOffset_33 : decode cX5_lastOffset 33 = .ok (.goto 4, 3) := by decide +kernel
theorem dX5_lastOffset_36 : decode cX5_lastOffset 36 = .ok (.iconst (-1), 1) := by decide +kernel
theorem dX5_lastOffset_37 : decode cX5_lastOffset 37 = .ok (.ireturn, 1) := by decide +kernel
set_option maxRecDepth 20000 in
theorem ggX5_harm_X1_placed : GoodIn wsX5_harm wsX1_placed := goodIn_r _ [6, 7, 30, 31, 32, 33, 34, 35, 36] (by decide +kernel) (by decide +kernel)
set_option maxRecDepth 20000 in
theorem gX5_harm_X1_placed_n250 : GoodIn wsX5_harm (wsX1_placed) := ggX5_harm_X1_placed
set_option maxRecDepth 20000 in
theorem ggX5_harm_J13_bitCount_95d88 : GoodIn wsX5_harm wsJ13_bitCount_95d88 := goodIn_r _ [11, 12, 13, 14] (by decide +kernel) (by decide +kernel)
set_option maxRecDepth 20000 in
theorem gX5_harm_J13_bitCount_95d88 : GoodIn wsX5_harm (va_wsS RX5 328 yJ13_bitCount_95d88 wsJ13_bitCount_95d88) := goodIn_app (goodIn_of _ (by decide +kernel)) ggX5_harm_J13_bitCount_95d88
theorem dX5_harm_0 : decode cX5_harm 0 = .ok (.aload_n 0, 1) := by decide +kernel
theorem dX5_harm_1 : decode cX5_harm 1 = .ok (.getfield 19, 3) := by decide +kernel
theorem dX5_harm_4 : decode cX5_harm 4 = .ok (.iload_n 1, 1) := by decide +kernel
theorem dX5_harm_5 : decode cX5_harm 5 = .ok (.iload_n 2, 1) := by decide +kernel
theorem dX5_harm_6 : decode cX5_harm 6 = .ok (.invokevirtual 250, 3) := by decide +kernel
theorem dX5_harm_9 : decode cX5_harm 9 = .ok (.aload_n 0, 1) := by decide +kernel
theorem dX5_harm_10 : decode cX5_harm 10 = .ok (.getfield 10, 3) := by decide +kernel
theorem dX5_harm_13 : decode cX5_harm 13 = .ok (.getfield 342, 3) := by decide +kernel
theorem dX5_harm_16 : decode cX5_harm 16 = .ok (.lxor, 1) := by decide +kernel
theorem dX5_harm_17 : decode cX5_harm 17 = .ok (.aload_n 0, 1) := by decide +kernel
theorem dX5_harm_18 : decode cX5_harm 18 = .ok (.getfield 10, 3) := by decide +kernel
theorem dX5_harm_21 : decode cX5_harm 21 = .ok (.getfield 294, 3) := by decide +kernel
theorem dX5_harm_24 : decode cX5_harm 24 = .ok (.land, 1) := by decide +kernel
theorem dX5_harm_25 : decode cX5_harm 25 = .ok (.invokestatic 328, 3) := by decide +kernel
theorem dX5_harm_28 : decode cX5_harm 28 = .ok (.ireturn, 1) := by decide +kernel
set_option maxRecDepth 20000 in
theorem ggX5_bestOffset_X5_lastOffset : GoodIn wsX5_bestOffset wsX5_lastOffset := goodIn_r _ [5, 6, 7, 24, 25, 26, 27, 28, 29, 30, 31, 32, 33, 34, 35, 36, 37, 38, 39, 40, 41, 42, 43, 44, 45] (by decide +kernel) (by decide +kernel)
set_option maxRecDepth 20000 in
theorem gX5_bestOffset_X5_lastOffset : GoodIn wsX5_bestOffset (wsV RX5 247 RX5 yX5_lastOffset wsX5_lastOffset) := goodIn_app (goodIn_of _ (by decide +kernel)) ggX5_bestOffset_X5_lastOffset
set_option maxRecDepth 20000 in
theorem ggX5_bestOffset_X5_harm : GoodIn wsX5_bestOffset wsX5_harm := goodIn_r _ [11, 6, 7, 12, 13, 14, 15, 16, 17, 18, 19, 20, 21, 22, 23, 24, 25, 26, 27, 28, 29, 30, 31, 32, 40, 41, 42, 43, 44, 45, 33, 34, 35, 36, 37, 38, 39] (by decide +kernel) (by decide +kernel)
set_option maxRecDepth 20000 in
theorem gX5_bestOffset_X5_harm : GoodIn wsX5_bestOffset (wsV RX5 345 RX5 yX5_harm wsX5_harm) := goodIn_app (goodIn_of _ (by decide +kernel)) ggX5_bestOffset_X5_harm
theorem dX5_bestOffset_0 : decode cX5_bestOffset 0 = .ok (.iconst (-1), 1) := by decide +kernel
theorem dX5_bestOffset_1 : decode cX5_bestOffset 1 = .ok (.istore_n 2, 1) := by decide +kernel
theorem dX5_bestOffset_2 : decode cX5_bestOffset 2 = .ok (.iconst (-1), 1) := by decide +kernel
theorem dX5_bestOffset_3 : decode cX5_bestOffset 3 = .ok (.istore_n 3, 1) := by decide +kernel
theorem dX5_bestOffset_4 : decode cX5_bestOffset 4 = .ok (.iconst 0, 1) := by decide +kernel
theorem dX5_bestOffset_5 : decode cX5_bestOffset 5 = .ok (.istore 4, 2) := by decide +kernel
theorem dX5_bestOffset_7 : decode cX5_bestOffset 7 = .ok (.iload 4, 2) := by decide +kernel
theorem dX5_bestOffset_9 : decode cX5_bestOffset 9 = .ok (.aload_n 0, 1) := by decide +kernel
theorem dX5_bestOffset_10 : decode cX5_bestOffset 10 = .ok (.iload_n 1, 1) := by decide +kernel
theorem dX5_bestOffset_11 : decode cX5_bestOffset 11 = .ok (.invokevirtual 247, 3) := by decide +kernel
theorem dX5_bestOffset_14 : decode cX5_bestOffset 14 = .ok (.if_icmp .gt 35, 3) := by decide +kernel
theorem dX5_bestOffset_17 : decode cX5_bestOffset 17 = .ok (.aload_n 0, 1) := by decide +kernel
theorem dX5_bestOffset_18 : decode cX5_bestOffset 18 = .ok (.iload_n 1, 1) := by decide +kernel
theorem dX5_bestOffset_19 : decode cX5_bestOffset 19 = .ok (.iload 4, 2) := by decide +kernel
theorem dX5_bestOffset_21 : decode cX5_bestOffset 21 = .ok (.invokevirtual 345, 3) := by decide +kernel
theorem dX5_bestOffset_24 : decode cX5_bestOffset 24 = .ok (.istore 5, 2) := by decide +kernel
theorem dX5_bestOffset_26 : decode cX5_bestOffset 26 = .ok (.iload_n 2, 1) := by decide +kernel
theorem dX5_bestOffset_27 : decode cX5_bestOffset 27 = .ok (.iconst (-1), 1) := by decide +kernel
theorem dX5_bestOffset_28 : decode cX5_bestOffset 28 = .ok (.if_icmp .eq 9, 3) := by decide +kernel
theorem dX5_bestOffset_31 : decode cX5_bestOffset 31 = .ok (.iload 5, 2) := by decide +kernel
theorem dX5_bestOffset_33 : decode cX5_bestOffset 33 = .ok (.iload_n 3, 1) := by decide +kernel
theorem dX5_bestOffset_34 : decode cX5_bestOffset 34 = .ok (.if_icmp .ge 9, 3) := by decide +kernel
theorem dX5_bestOffset_37 : decode cX5_bestOffset 37 = .ok (.iload 4, 2) := by decide +kernel
theorem dX5_bestOffset_39 : decode cX5_bestOffset 39 = .ok (.istore_n 2, 1) := by decide +kernel
theorem dX5_bestOffset_40 : decode cX5_bestOffset 40 = .ok (.iload 5, 2) := by decide +kernel
theorem dX5_bestOffset_42 : decode cX5_bestOffset 42 = .ok (.istore_n 3, 1) := by decide +kernel
theorem dX5_bestOffset_43 : decode cX5_bestOffset 43 = .ok (.iinc 4 1, 3) := by decide +kernel
theorem dX5_bestOffset_46 : decode cX5_bestOffset 46 = .ok (.goto (-39), 3) := by decide +kernel
theorem dX5_bestOffset_49 : decode cX5_bestOffset 49 = .ok (.iload_n 2, 1) := by decide +kernel
theorem dX5_bestOffset_50 : decode cX5_bestOffset 50 = .ok (.ireturn, 1) := by decide +kernel
set_option maxRecDepth 20000 in
theorem ggX5_leastHarm_X5_bestOffset : GoodIn wsX5_leastHarm wsX5_bestOffset := goodIn_r _ [5, 6, 7, 8, 4, 9, 10, 11, 12, 13, 14, 15, 16, 17, 18, 19, 20, 21, 22, 23, 24, 25, 26, 27, 28, 29, 30, 31, 32, 33, 34, 35, 36, 37, 38, 39, 40, 41, 42, 43, 44, 45, 46, 47, 48, 49] (by decide +kernel) (by decide +kernel)
set_option maxRecDepth 20000 in
theorem gX5_leastHarm_X5_bestOffset : GoodIn wsX5_leastHarm (wsV RX5 308 RX5 yX5_bestOffset wsX5_bestOffset) := goodIn_app (goodIn_of _ (by decide +kernel)) ggX5_leastHarm_X5_bestOffset
set_option maxRecDepth 20000 in
theorem ggX5_leastHarm_X5_harm : GoodIn wsX5_leastHarm wsX5_harm := goodIn_r _ [15, 10, 11, 16, 17, 18, 19, 20, 21, 22, 23, 24, 25, 26, 27, 28, 29, 30, 31, 32, 33, 34, 35, 36, 44, 45, 46, 47, 48, 49, 37, 38, 39, 40, 41, 42, 43] (by decide +kernel) (by decide +kernel)
set_option maxRecDepth 20000 in
theorem gX5_leastHarm_X5_harm : GoodIn wsX5_leastHarm (wsV RX5 345 RX5 yX5_harm wsX5_harm) := goodIn_app (goodIn_of _ (by decide +kernel)) ggX5_leastHarm_X5_harm
theorem dX5_leastHarm_0 : decode cX5_leastHarm 0 = .ok (.aload_n 0, 1) := by decide +kernel
theorem dX5_leastHarm_1 : decode cX5_leastHarm 1 = .ok (.iload_n 1, 1) := by decide +kernel
theorem dX5_leastHarm_2 : decode cX5_leastHarm 2 = .ok (.invokevirtual 308, 3) := by decide +kernel
theorem dX5_leastHarm_5 : decode cX5_leastHarm 5 = .ok (.istore_n 2, 1) := by decide +kernel
theorem dX5_leastHarm_6 : decode cX5_leastHarm 6 = .ok (.iload_n 2, 1) := by decide +kernel
theorem dX5_leastHarm_7 : decode cX5_leastHarm 7 = .ok (.iconst (-1), 1) := by decide +kernel
theorem dX5_leastHarm_8 : decode cX5_leastHarm 8 = .ok (.if_icmp .ne 7, 3) := by decide +kernel
theorem dX5_leastHarm_11 : decode cX5_leastHarm 11 = .ok (.iconst (-1), 1) := by decide +kernel
theorem dX5_leastHarm_12 : decode cX5_leastHarm 12 = .ok (.goto 9, 3) := by decide +kernel
theorem dX5_leastHarm_15 : decode cX5_leastHarm 15 = .ok (.aload_n 0, 1) := by decide +kernel
theorem dX5_leastHarm_16 : decode cX5_leastHarm 16 = .ok (.iload_n 1, 1) := by decide +kernel
theorem dX5_leastHarm_17 : decode cX5_leastHarm 17 = .ok (.iload_n 2, 1) := by decide +kernel
theorem dX5_leastHarm_18 : decode cX5_leastHarm 18 = .ok (.invokevirtual 345, 3) := by decide +kernel
theorem dX5_leastHarm_21 : decode cX5_leastHarm 21 = .ok (.ireturn, 1) := by decide +kernel
set_option maxRecDepth 20000 in
theorem ggX5_distance_X5_lastOffset : GoodIn wsX5_distance wsX5_lastOffset := goodIn_r _ [6, 1, 7, 23, 24, 25, 26, 27, 28, 29, 30, 31, 32, 33, 34, 35, 36, 37, 38, 39, 40, 41, 42, 43, 44] (by decide +kernel) (by decide +kernel)
set_option maxRecDepth 20000 in
theorem gX5_distance_X5_lastOffset : GoodIn wsX5_distance (wsV RX5 247 RX5 yX5_lastOffset wsX5_lastOffset) := goodIn_app (goodIn_of _ (by decide +kernel)) ggX5_distance_X5_lastOffset
set_option maxRecDepth 20000 in
theorem ggX5_distance_X1_placed : GoodIn wsX5_distance wsX1_placed := goodIn_r _ [11, 12, 32, 33, 34, 35, 36, 37, 38] (by decide +kernel) (by decide +kernel)
set_option maxRecDepth 20000 in
theorem gX5_distance_X1_placed_n250 : GoodIn wsX5_distance (wsX1_placed) := ggX5_distance_X1_placed
set_option maxRecDepth 20000 in
theorem ggX5_distance_J13_bitCount_95d88 : GoodIn wsX5_distance wsJ13_bitCount_95d88 := goodIn_r _ [16, 17, 18, 19] (by decide +kernel) (by decide +kernel)
set_option maxRecDepth 20000 in
theorem gX5_distance_J13_bitCount_95d88 : GoodIn wsX5_distance (va_wsS RX5 328 yJ13_bitCount_95d88 wsJ13_bitCount_95d88) := goodIn_app (goodIn_of _ (by decide +kernel)) ggX5_distance_J13_bitCount_95d88
set_option maxRecDepth 20000 in
theorem ggX5_distance_X5_lesser : GoodIn wsX5_distance wsX5_lesser := goodIn_r _ [22] (by decide +kernel) (by decide +kernel)
set_option maxRecDepth 20000 in
theorem gX5_distance_X5_lesser : GoodIn wsX5_distance (va_wsS RX5 258 yX5_lesser wsX5_lesser) := goodIn_app (goodIn_of _ (by decide +kernel)) ggX5_distance_X5_lesser
theorem dX5_distance_0 : decode cX5_distance 0 = .ok (.iconst (-1), 1) := by decide +kernel
theorem dX5_distance_1 : decode cX5_distance 1 = .ok (.istore 4, 2) := by decide +kernel
theorem dX5_distance_3 : decode cX5_distance 3 = .ok (.iconst 0, 1) := by decide +kernel
theorem dX5_distance_4 : decode cX5_distance 4 = .ok (.istore 5, 2) := by decide +kernel
theorem dX5_distance_6 : decode cX5_distance 6 = .ok (.iload 5, 2) := by decide +kernel
theorem dX5_distance_8 : decode cX5_distance 8 = .ok (.aload_n 0, 1) := by decide +kernel
theorem dX5_distance_9 : decode cX5_distance 9 = .ok (.iload_n 3, 1) := by decide +kernel
theorem dX5_distance_10 : decode cX5_distance 10 = .ok (.invokevirtual 247, 3) := by decide +kernel
theorem dX5_distance_13 : decode cX5_distance 13 = .ok (.if_icmp .gt 31, 3) := by decide +kernel
theorem dX5_distance_16 : decode cX5_distance 16 = .ok (.iload 4, 2) := by decide +kernel
theorem dX5_distance_18 : decode cX5_distance 18 = .ok (.lload_n 1, 1) := by decide +kernel
theorem dX5_distance_19 : decode cX5_distance 19 = .ok (.aload_n 0, 1) := by decide +kernel
theorem dX5_distance_20 : decode cX5_distance 20 = .ok (.getfield 19, 3) := by decide +kernel
theorem dX5_distance_23 : decode cX5_distance 23 = .ok (.iload_n 3, 1) := by decide +kernel
theorem dX5_distance_24 : decode cX5_distance 24 = .ok (.iload 5, 2) := by decide +kernel
theorem dX5_distance_26 : decode cX5_distance 26 = .ok (.invokevirtual 250, 3) := by decide +kernel
theorem dX5_distance_29 : decode cX5_distance 29 = .ok (.lxor, 1) := by decide +kernel
theorem dX5_distance_30 : decode cX5_distance 30 = .ok (.invokestatic 328, 3) := by decide +kernel
theorem dX5_distance_33 : decode cX5_distance 33 = .ok (.invokestatic 258, 3) := by decide +kernel
theorem dX5_distance_36 : decode cX5_distance 36 = .ok (.istore 4, 2) := by decide +kernel
theorem dX5_distance_38 : decode cX5_distance 38 = .ok (.iinc 5 1, 3) := by decide +kernel
theorem dX5_distance_41 : decode cX5_distance 41 = .ok (.goto (-35), 3) := by decide +kernel
theorem dX5_distance_44 : decode cX5_distance 44 = .ok (.iload 4, 2) := by decide +kernel
theorem dX5_distance_46 : decode cX5_distance 46 = .ok (.ireturn, 1) := by decide +kernel
set_option maxRecDepth 20000 in
theorem ggX5_says_X5_distance : GoodIn wsX5_says wsX5_distance := goodIn_r _ [5, 6, 7, 8, 9, 4, 10, 11, 12, 13, 14, 15, 16, 17, 18, 19, 20, 21, 22, 23, 24, 25, 26, 27, 28, 29, 30, 31, 32, 33, 34, 35, 36, 37, 38, 39, 40, 41, 42, 43, 44, 45, 46, 47, 48] (by decide +kernel) (by decide +kernel)
set_option maxRecDepth 20000 in
theorem gX5_says_X5_distance : GoodIn wsX5_says (wsV RX5 254 RX5 yX5_distance wsX5_distance) := goodIn_app (goodIn_of _ (by decide +kernel)) ggX5_says_X5_distance
theorem dX5_says_0 : decode cX5_says 0 = .ok (.aload_n 0, 1) := by decide +kernel
theorem dX5_says_1 : decode cX5_says 1 = .ok (.lload_n 1, 1) := by decide +kernel
theorem dX5_says_2 : decode cX5_says 2 = .ok (.iload_n 3, 1) := by decide +kernel
theorem dX5_says_3 : decode cX5_says 3 = .ok (.invokevirtual 254, 3) := by decide +kernel
theorem dX5_says_6 : decode cX5_says 6 = .ok (.ifCond .ne 7, 3) := by decide +kernel
theorem dX5_says_9 : decode cX5_says 9 = .ok (.iconst 1, 1) := by decide +kernel
theorem dX5_says_10 : decode cX5_says 10 = .ok (.goto 4, 3) := by decide +kernel
theorem dX5_says_13 : decode cX5_says 13 = .ok (.iconst 0, 1) := by decide +kernel
theorem dX5_says_14 : decode cX5_says 14 = .ok (.ireturn, 1) := by decide +kernel
set_option maxRecDepth 20000 in
theorem ggX5_readAs_X5_distance : GoodIn wsX5_readAs wsX5_distance := goodIn_r _ [7, 1, 8, 9, 10, 6, 11, 12, 13, 14, 15, 16, 17, 18, 19, 20, 21, 22, 23, 24, 25, 26, 27, 28, 29, 30, 31, 32, 33, 34, 35, 36, 37, 38, 39, 40, 41, 42, 43, 44, 45, 46, 47, 48, 49] (by decide +kernel) (by decide +kernel)
set_option maxRecDepth 20000 in
theorem gX5_readAs_X5_distance : GoodIn wsX5_readAs (wsV RX5 254 RX5 yX5_distance wsX5_distance) := goodIn_app (goodIn_of _ (by decide +kernel)) ggX5_readAs_X5_distance
theorem dX5_readAs_0 : decode cX5_readAs 0 = .ok (.iconst (-1), 1) := by decide +kernel
theorem dX5_readAs_1 : decode cX5_readAs 1 = .ok (.istore_n 3, 1) := by decide +kernel
theorem dX5_readAs_2 : decode cX5_readAs 2 = .ok (.iconst (-1), 1) := by decide +kernel
theorem dX5_readAs_3 : decode cX5_readAs 3 = .ok (.istore 4, 2) := by decide +kernel
theorem dX5_readAs_5 : decode cX5_readAs 5 = .ok (.iconst 0, 1) := by decide +kernel
theorem dX5_readAs_6 : decode cX5_readAs 6 = .ok (.istore 5, 2) := by decide +kernel
theorem dX5_readAs_8 : decode cX5_readAs 8 = .ok (.iload 5, 2) := by decide +kernel
theorem dX5_readAs_10 : decode cX5_readAs 10 = .ok (.aload_n 0, 1) := by decide +kernel
theorem dX5_readAs_11 : decode cX5_readAs 11 = .ok (.getfield 19, 3) := by decide +kernel
theorem dX5_readAs_14 : decode cX5_readAs 14 = .ok (.getfield 95, 3) := by decide +kernel
theorem dX5_readAs_17 : decode cX5_readAs 17 = .ok (.if_icmp .ge 62, 3) := by decide +kernel
theorem dX5_readAs_20 : decode cX5_readAs 20 = .ok (.aload_n 0, 1) := by decide +kernel
theorem dX5_readAs_21 : decode cX5_readAs 21 = .ok (.lload_n 1, 1) := by decide +kernel
theorem dX5_readAs_22 : decode cX5_readAs 22 = .ok (.iload 5, 2) := by decide +kernel
theorem dX5_readAs_24 : decode cX5_readAs 24 = .ok (.invokevirtual 254, 3) := by decide +kernel
theorem dX5_readAs_27 : decode cX5_readAs 27 = .ok (.istore 6, 2) := by decide +kernel
theorem dX5_readAs_29 : decode cX5_readAs 29 = .ok (.iload 6, 2) := by decide +kernel
theorem dX5_readAs_31 : decode cX5_readAs 31 = .ok (.iconst (-1), 1) := by decide +kernel
theorem dX5_readAs_32 : decode cX5_readAs 32 = .ok (.if_icmp .eq 15, 3) := by decide +kernel
theorem dX5_readAs_35 : decode cX5_readAs 35 = .ok (.iload 6, 2) := by decide +kernel
theorem dX5_readAs_37 : decode cX5_readAs 37 = .ok (.iload 4, 2) := by decide +kernel
theorem dX5_readAs_39 : decode cX5_readAs 39 = .ok (.if_icmp .ne 8, 3) := by decide +kernel
theorem dX5_readAs_42 : decode cX5_readAs 42 = .ok (.iconst (-1), 1) := by decide +kernel
theorem dX5_readAs_43 : decode cX5_readAs 43 = .ok (.istore_n 3, 1) := by decide +kernel
theorem dX5_readAs_44 : decode cX5_readAs 44 = .ok (.goto 29, 3) := by decide +kernel
theorem dX5_readAs_47 : decode cX5_readAs 47 = .ok (.iload 6, 2) := by decide +kernel
theorem dX5_readAs_49 : decode cX5_readAs 49 = .ok (.iconst (-1), 1) := by decide +kernel
theorem dX5_readAs_50 : decode cX5_readAs 50 = .ok (.if_icmp .eq 23, 3) := by decide +kernel
theorem dX5_readAs_53 : decode cX5_readAs 53 = .ok (.iload 4, 2) := by decide +kernel
theorem dX5_readAs_55 : decode cX5_readAs 55 = .ok (.iconst (-1), 1) := by decide +kernel
theorem dX5_readAs_56 : decode cX5_readAs 56 = .ok (.if_icmp .eq 10, 3) := by decide +kernel
theorem dX5_readAs_59 : decode cX5_readAs 59 = .ok (.iload 6, 2) := by decide +kernel
theorem dX5_readAs_61 : decode cX5_readAs 61 = .ok (.iload 4, 2) := by decide +kernel
theorem dX5_readAs_63 : decode cX5_readAs 63 = .ok (.if_icmp .ge 10, 3) := by decide +kernel
theorem dX5_readAs_66 : decode cX5_readAs 66 = .ok (.iload 5, 2) := by decide +kernel
theorem dX5_readAs_68 : decode cX5_readAs 68 = .ok (.istore_n 3, 1) := by decide +kernel
theorem dX5_readAs_69 : decode cX5_readAs 69 = .ok (.iload 6, 2) := by decide +kernel
theorem dX5_readAs_71 : decode cX5_readAs 71 = .ok (.istore 4, 2) := by decide +kernel
theorem dX5_readAs_73 : decode cX5_readAs 73 = .ok (.iinc 5 1, 3) := by decide +kernel
theorem dX5_readAs_76 : decode cX5_readAs 76 = .ok (.goto (-68), 3) := by decide +kernel
theorem dX5_readAs_79 : decode cX5_readAs 79 = .ok (.iload 4, 2) := by decide +kernel
theorem dX5_readAs_81 : decode cX5_readAs 81 = .ok (.aload_n 0, 1) := by decide +kernel
theorem dX5_readAs_82 : decode cX5_readAs 82 = .ok (.getfield 48, 3) := by decide +kernel
theorem dX5_readAs_85 : decode cX5_readAs 85 = .ok (.if_icmp .gt 7, 3) := by decide +kernel
theorem dX5_readAs_88 : decode cX5_readAs 88 = .ok (.iload_n 3, 1) := by decide +kernel
theorem dX5_readAs_89 : decode cX5_readAs 89 = .ok (.goto 4, 3) := by decide +kernel
theorem dX5_readAs_92 : decode cX5_readAs 92 = .ok (.iconst (-1), 1) := by decide +kernel
theorem dX5_readAs_93 : decode cX5_readAs 93 = .ok (.ireturn, 1) := by decide +kernel
set_option maxRecDepth 20000 in
theorem ggX5_readOfGoal_X5_bestOffset : GoodIn wsX5_readOfGoal wsX5_bestOffset := goodIn_r _ [5, 6, 7, 8, 4, 9, 10, 11, 12, 13, 14, 15, 16, 17, 18, 19, 20, 21, 22, 23, 24, 25, 26, 27, 51, 52, 53, 54, 55, 56, 57, 58, 59, 60, 61, 62, 63, 64, 65, 66, 67, 68, 69, 70, 71, 72] (by decide +kernel) (by decide +kernel)
set_option maxRecDepth 20000 in
theorem gX5_readOfGoal_X5_bestOffset : GoodIn wsX5_readOfGoal (wsV RX5 308 RX5 yX5_bestOffset wsX5_bestOffset) := goodIn_app (goodIn_of _ (by decide +kernel)) ggX5_readOfGoal_X5_bestOffset
set_option maxRecDepth 20000 in
theorem ggX5_readOfGoal_X5_goalAt : GoodIn wsX5_readOfGoal wsX5_goalAt := goodIn_r _ [31, 11, 10, 16, 17, 18, 19, 20, 32, 33, 34, 35, 36, 37, 38, 51, 52, 53, 54, 55, 56, 57, 58, 59, 60, 61, 62, 63, 64, 65, 66, 67, 68, 69, 70, 71, 72] (by decide +kernel) (by decide +kernel)
set_option maxRecDepth 20000 in
theorem gX5_readOfGoal_X5_goalAt : GoodIn wsX5_readOfGoal (wsV RX5 348 RX5 yX5_goalAt wsX5_goalAt) := goodIn_app (goodIn_of _ (by decide +kernel)) ggX5_readOfGoal_X5_goalAt
set_option maxRecDepth 20000 in
theorem ggX5_readOfGoal_X5_readAs : GoodIn wsX5_readOfGoal wsX5_readAs := goodIn_r _ [42, 10, 43, 44, 45, 46, 4, 47, 6, 7, 8, 9, 11, 16, 17, 18, 19, 20, 21, 22, 23, 24, 25, 26, 27, 48, 49, 50, 51, 52, 53, 54, 55, 56, 57, 58, 59, 60, 61, 62, 63, 64, 65, 66, 67, 68, 69, 70, 71, 72] (by decide +kernel) (by decide +kernel)
set_option maxRecDepth 20000 in
theorem gX5_readOfGoal_X5_readAs : GoodIn wsX5_readOfGoal (wsV RX5 324 RX5 yX5_readAs wsX5_readAs) := goodIn_app (goodIn_of _ (by decide +kernel)) ggX5_readOfGoal_X5_readAs
theorem dX5_readOfGoal_0 : decode cX5_readOfGoal 0 = .ok (.aload_n 0, 1) := by decide +kernel
theorem dX5_readOfGoal_1 : decode cX5_readOfGoal 1 = .ok (.iload_n 1, 1) := by decide +kernel
theorem dX5_readOfGoal_2 : decode cX5_readOfGoal 2 = .ok (.invokevirtual 308, 3) := by decide +kernel
theorem dX5_readOfGoal_5 : decode cX5_readOfGoal 5 = .ok (.istore_n 2, 1) := by decide +kernel
theorem dX5_readOfGoal_6 : decode cX5_readOfGoal 6 = .ok (.iload_n 2, 1) := by decide +kernel
theorem dX5_readOfGoal_7 : decode cX5_readOfGoal 7 = .ok (.iconst (-1), 1) := by decide +kernel
theorem dX5_readOfGoal_8 : decode cX5_readOfGoal 8 = .ok (.if_icmp .ne 7, 3) := by decide +kernel
theorem dX5_readOfGoal_11 : decode cX5_readOfGoal 11 = .ok (.iconst (-1), 1) := by decide +kernel
theorem dX5_readOfGoal_12 : decode cX5_readOfGoal 12 = .ok (.goto 13, 3) := by decide +kernel
theorem dX5_readOfGoal_15 : decode cX5_readOfGoal 15 = .ok (.aload_n 0, 1) := by decide +kernel
theorem dX5_readOfGoal_16 : decode cX5_readOfGoal 16 = .ok (.aload_n 0, 1) := by decide +kernel
theorem dX5_readOfGoal_17 : decode cX5_readOfGoal 17 = .ok (.iload_n 1, 1) := by decide +kernel
theorem dX5_readOfGoal_18 : decode cX5_readOfGoal 18 = .ok (.iload_n 2, 1) := by decide +kernel
theorem dX5_readOfGoal_19 : decode cX5_readOfGoal 19 = .ok (.invokevirtual 348, 3) := by decide +kernel
theorem dX5_readOfGoal_22 : decode cX5_readOfGoal 22 = .ok (.invokevirtual 324, 3) := by decide +kernel
theorem dX5_readOfGoal_25 : decode cX5_readOfGoal 25 = .ok (.ireturn, 1) := by decide +kernel
set_option maxRecDepth 20000 in
theorem ggX5_goalAt_X1_placed : GoodIn wsX5_goalAt wsX1_placed := goodIn_r _ [6, 7, 24, 25, 26, 27, 28, 29, 30] (by decide +kernel) (by decide +kernel)
set_option maxRecDepth 20000 in
theorem gX5_goalAt_X1_placed_n250 : GoodIn wsX5_goalAt (wsX1_placed) := ggX5_goalAt_X1_placed
set_option maxRecDepth 20000 in
theorem ggX5_goalAt_X0_withStuck : GoodIn wsX5_goalAt wsX0_withStuck := goodIn_r _ [11, 12, 13, 14, 31, 32, 33, 34, 35, 36] (by decide +kernel) (by decide +kernel)
set_option maxRecDepth 20000 in
theorem gX5_goalAt_X0_withStuck_n351 : GoodIn wsX5_goalAt (wsX0_withStuck) := ggX5_goalAt_X0_withStuck
theorem dX5_goalAt_0 : decode cX5_goalAt 0 = .ok (.aload_n 0, 1) := by decide +kernel
theorem dX5_goalAt_1 : decode cX5_goalAt 1 = .ok (.getfield 10, 3) := by decide +kernel
theorem dX5_goalAt_4 : decode cX5_goalAt 4 = .ok (.aload_n 0, 1) := by decide +kernel
theorem dX5_goalAt_5 : decode cX5_goalAt 5 = .ok (.getfield 19, 3) := by decide +kernel
theorem dX5_goalAt_8 : decode cX5_goalAt 8 = .ok (.iload_n 1, 1) := by decide +kernel
theorem dX5_goalAt_9 : decode cX5_goalAt 9 = .ok (.iload_n 2, 1) := by decide +kernel
theorem dX5_goalAt_10 : decode cX5_goalAt 10 = .ok (.invokevirtual 250, 3) := by decide +kernel
theorem dX5_goalAt_13 : decode cX5_goalAt 13 = .ok (.invokevirtual 351, 3) := by decide +kernel
theorem dX5_goalAt_16 : decode cX5_goalAt 16 = .ok (.lreturn, 1) := by decide +kernel
set_option maxRecDepth 20000 in
theorem ggX5_bringUp_X5_makePlan : GoodIn wsX5_bringUp wsX5_makePlan := goodIn_r _ [9, 1, 2, 10, 11, 12, 13, 14, 8, 15, 16, 17, 18, 19, 20, 21, 22, 23, 24, 25, 26, 27, 28, 29, 30, 31, 32, 33, 34, 35, 36, 37, 38, 39, 40, 41, 42, 43, 44, 45, 46, 47, 48, 49, 50, 51, 52, 53, 54, 55, 56, 57, 58, 59, 60, 61, 62, 63, 64, 65, 66, 67, 68, 69, 70, 71, 72, 73, 74, 75, 76, 77, 78, 79, 80, 81, 82, 83, 84, 85, 86, 87, 88, 89, 90, 91, 92, 93, 94, 95, 96, 97, 98, 99, 100, 101, 102, 103, 104, 105, 106, 107, 108, 109, 110, 111, 120, 121, 122, 123, 124, 125, 126, 127, 128, 137, 138, 139, 140, 141, 142, 143, 144, 145, 146, 147, 148, 149, 129, 130, 131, 132, 133, 134, 135, 136] (by decide +kernel) (by decide +kernel)
set_option maxRecDepth 20000 in
theorem gX5_bringUp_X5_makePlan : GoodIn wsX5_bringUp (wsV RX5 210 RX5 yX5_makePlan wsX5_makePlan) := goodIn_app (goodIn_of _ (by decide +kernel)) ggX5_bringUp_X5_makePlan
set_option maxRecDepth 20000 in
theorem ggX5_bringUp_X0_turnTo : GoodIn wsX5_bringUp wsX0_turnTo := goodIn_r _ [114, 115, 116, 117, 118, 74, 8, 75, 60, 61, 119, 68, 69, 70, 71, 72, 73, 94, 95, 137, 138, 139, 140, 141, 142] (by decide +kernel) (by decide +kernel)
set_option maxRecDepth 20000 in
theorem gX5_bringUp_X0_turnTo_n358 : GoodIn wsX5_bringUp (wsX0_turnTo) := ggX5_bringUp_X0_turnTo
theorem dX5_bringUp_0 : decode cX5_bringUp 0 = .ok (.aload_n 0, 1) := by decide +kernel
theorem dX5_bringUp_1 : decode cX5_bringUp 1 = .ok (.iload_n 1, 1) := by decide +kernel
theorem dX5_bringUp_2 : decode cX5_bringUp 2 = .ok (.invokevirtual 210, 3) := by decide +kernel
theorem dX5_bringUp_5 : decode cX5_bringUp 5 = .ok (.aload_n 0, 1) := by decide +kernel
theorem dX5_bringUp_6 : decode cX5_bringUp 6 = .ok (.getfield 26, 3) := by decide +kernel
theorem dX5_bringUp_9 : decode cX5_bringUp 9 = .ok (.getfield 318, 3) := by decide +kernel
theorem dX5_bringUp_12 : decode cX5_bringUp 12 = .ok (.iconst (-1), 1) := by decide +kernel
theorem dX5_bringUp_13 : decode cX5_bringUp 13 = .ok (.if_icmp .eq 38, 3) := by decide +kernel
theorem dX5_bringUp_16 : decode cX5_bringUp 16 = .ok (.aload_n 0, 1) := by decide +kernel
theorem dX5_bringUp_17 : decode cX5_bringUp 17 = .ok (.getfield 10, 3) := by decide +kernel
theorem dX5_bringUp_20 : decode cX5_bringUp 20 = .ok (.aload_n 0, 1) := by decide +kernel
theorem dX5_bringUp_21 : decode cX5_bringUp 21 = .ok (.getfield 26, 3) := by decide +kernel
theorem dX5_bringUp_24 : decode cX5_bringUp 24 = .ok (.getfield 355, 3) := by decide +kernel
theorem dX5_bringUp_27 : decode cX5_bringUp 27 = .ok (.invokevirtual 358, 3) := by decide +kernel
theorem dX5_bringUp_30 : decode cX5_bringUp 30 = .ok (.aload_n 0, 1) := by decide +kernel
theorem dX5_bringUp_31 : decode cX5_bringUp 31 = .ok (.dup, 1) := by decide +kernel
theorem dX5_bringUp_32 : decode cX5_bringUp 32 = .ok (.getfield 335, 3) := by decide +kernel
theorem dX5_bringUp_35 : decode cX5_bringUp 35 = .ok (.aload_n 0, 1) := by decide +kernel
theorem dX5_bringUp_36 : decode cX5_bringUp 36 = .ok (.getfield 26, 3) := by decide +kernel
theorem dX5_bringUp_39 : decode cX5_bringUp 39 = .ok (.getfield 318, 3) := by decide +kernel
theorem dX5_bringUp_42 : decode cX5_bringUp 42 = .ok (.iadd, 1) := by decide +kernel
theorem dX5_bringUp_43 : decode cX5_bringUp 43 = .ok (.putfield 335, 3) := by decide +kernel
theorem dX5_bringUp_46 : decode cX5_bringUp 46 = .ok (.aload_n 0, 1) := by decide +kernel
theorem dX5_bringUp_47 : decode cX5_bringUp 47 = .ok (.iload_n 1, 1) := by decide +kernel
theorem dX5_bringUp_48 : decode cX5_bringUp 48 = .ok (.putfield 51, 3) := by decide +kernel
theorem dX5_bringUp_51 : decode cX5_bringUp 51 = .ok (.aload_n 0, 1) := by decide +kernel
theorem dX5_bringUp_52 : decode cX5_bringUp 52 = .ok (.getfield 26, 3) := by decide +kernel
theorem dX5_bringUp_55 : decode cX5_bringUp 55 = .ok (.getfield 318, 3) := by decide +kernel
theorem dX5_bringUp_58 : decode cX5_bringUp 58 = .ok (.ireturn, 1) := by decide +kernel
set_option maxRecDepth 20000 in
theorem ggX5_makePlan_X5_bestOffset : GoodIn wsX5_makePlan wsX5_bestOffset := goodIn_r _ [9, 10, 11, 12, 8, 13, 4, 2, 14, 15, 16, 17, 18, 19, 20, 21, 22, 23, 24, 25, 26, 27, 28, 29, 106, 107, 108, 109, 110, 111, 112, 113, 114, 121, 122, 123, 124, 125, 126, 127, 115, 116, 117, 118, 119, 120] (by decide +kernel) (by decide +kernel)
set_option maxRecDepth 20000 in
theorem gX5_makePlan_X5_bestOffset : GoodIn wsX5_makePlan (wsV RX5 308 RX5 yX5_bestOffset wsX5_bestOffset) := goodIn_app (goodIn_of _ (by decide +kernel)) ggX5_makePlan_X5_bestOffset
set_option maxRecDepth 20000 in
theorem ggX5_makePlan_X2_giveUp : GoodIn wsX5_makePlan wsX2_giveUp := goodIn_r _ [33, 34, 128, 129, 130, 131, 132, 133, 134, 135] (by decide +kernel) (by decide +kernel)
set_option maxRecDepth 20000 in
theorem gX5_makePlan_X2_giveUp_n362 : GoodIn wsX5_makePlan (wsX2_giveUp) := ggX5_makePlan_X2_giveUp
set_option maxRecDepth 20000 in
theorem ggX5_makePlan_X5_goalAt : GoodIn wsX5_makePlan wsX5_goalAt := goodIn_r _ [38, 2, 4, 18, 19, 20, 21, 22, 39, 40, 41, 42, 43, 44, 45, 106, 107, 108, 109, 110, 111, 112, 113, 114, 121, 122, 123, 124, 125, 126, 127, 115, 116, 117, 118, 119, 120] (by decide +kernel) (by decide +kernel)
set_option maxRecDepth 20000 in
theorem gX5_makePlan_X5_goalAt : GoodIn wsX5_makePlan (wsV RX5 348 RX5 yX5_goalAt wsX5_goalAt) := goodIn_app (goodIn_of _ (by decide +kernel)) ggX5_makePlan_X5_goalAt
set_option maxRecDepth 20000 in
theorem ggX5_makePlan_X2_begin : GoodIn wsX5_makePlan wsX2_begin := goodIn_r _ [48, 49, 50, 51, 52, 53, 54, 8, 55, 56, 57, 58, 31, 59, 60, 61, 62, 63, 64, 65, 66, 67, 68, 69, 128, 129, 130, 131, 132, 133, 134, 135] (by decide +kernel) (by decide +kernel)
set_option maxRecDepth 20000 in
theorem gX5_makePlan_X2_begin_n365 : GoodIn wsX5_makePlan (wsX2_begin) := ggX5_makePlan_X2_begin
set_option maxRecDepth 20000 in
theorem ggX5_makePlan_X5_says : GoodIn wsX5_makePlan wsX5_says := goodIn_r _ [73, 74, 75, 76, 8, 77, 4, 10, 11, 12, 13, 2, 18, 19, 20, 21, 22, 23, 24, 25, 26, 27, 28, 29, 78, 79, 80, 106, 107, 108, 109, 110, 111, 112, 113, 114, 121, 122, 123, 124, 125, 126, 127, 115, 116, 117, 118, 119, 120] (by decide +kernel) (by decide +kernel)
set_option maxRecDepth 20000 in
theorem gX5_makePlan_X5_says : GoodIn wsX5_makePlan (wsV RX5 314 RX5 yX5_says wsX5_says) := goodIn_app (goodIn_of _ (by decide +kernel)) ggX5_makePlan_X5_says
set_option maxRecDepth 20000 in
theorem ggX5_makePlan_X5_forbidPlacesOf : GoodIn wsX5_makePlan wsX5_forbidPlacesOf := goodIn_r _ [84, 1, 4, 10, 11, 12, 8, 13, 2, 18, 19, 20, 21, 22, 85, 31, 86, 87, 49, 50, 53, 54, 55, 88, 89, 106, 107, 108, 109, 110, 111, 112, 113, 114, 121, 122, 123, 124, 125, 126, 127, 115, 116, 117, 118, 119, 120, 128, 129, 130, 131, 132, 133, 134, 135] (by decide +kernel) (by decide +kernel)
set_option maxRecDepth 20000 in
theorem gX5_makePlan_X5_forbidPlacesOf : GoodIn wsX5_makePlan (wsV RX5 368 RX5 yX5_forbidPlacesOf wsX5_forbidPlacesOf) := goodIn_app (goodIn_of _ (by decide +kernel)) ggX5_makePlan_X5_forbidPlacesOf
set_option maxRecDepth 20000 in
theorem ggX5_makePlan_X2_choose : GoodIn wsX5_makePlan wsX2_choose := goodIn_r _ [92, 53, 52, 34, 93, 88, 8, 89, 68, 69, 94, 95, 96, 31, 97, 98, 99, 100, 101, 60, 51, 102, 103, 104, 105, 128, 129, 130, 131, 132, 133, 134, 135] (by decide +kernel) (by decide +kernel)
set_option maxRecDepth 20000 in
theorem gX5_makePlan_X2_choose_n371 : GoodIn wsX5_makePlan (wsX2_choose) := ggX5_makePlan_X2_choose
theorem dX5_makePlan_0 : decode cX5_makePlan 0 = .ok (.aload_n 0, 1) := by decide +kernel
theorem dX5_makePlan_1 : decode cX5_makePlan 1 = .ok (.iload_n 1, 1) := by decide +kernel
theorem dX5_makePlan_2 : decode cX5_makePlan 2 = .ok (.invokevirtual 308, 3) := by decide +kernel
theorem dX5_makePlan_5 : decode cX5_makePlan 5 = .ok (.istore_n 2, 1) := by decide +kernel
theorem dX5_makePlan_6 : decode cX5_makePlan 6 = .ok (.iload_n 2, 1) := by decide +kernel
theorem dX5_makePlan_7 : decode cX5_makePlan 7 = .ok (.iconst (-1), 1) := by decide +kernel
theorem dX5_makePlan_8 : decode cX5_makePlan 8 = .ok (.if_icmp .ne 11, 3) := by decide +kernel
theorem dX5_makePlan_11 : decode cX5_makePlan 11 = .ok (.aload_n 0, 1) := by decide +kernel
theorem dX5_makePlan_12 : decode cX5_makePlan 12 = .ok (.getfield 26, 3) := by decide +kernel
theorem dX5_makePlan_15 : decode cX5_makePlan 15 = .ok (.invokevirtual 362, 3) := by decide +kernel
theorem dX5_makePlan_18 : decode cX5_makePlan 18 = .ok (.return_, 1) := by decide +kernel
theorem dX5_makePlan_19 : decode cX5_makePlan 19 = .ok (.aload_n 0, 1) := by decide +kernel
theorem dX5_makePlan_20 : decode cX5_makePlan 20 = .ok (.getfield 26, 3) := by decide +kernel
theorem dX5_makePlan_23 : decode cX5_makePlan 23 = .ok (.aload_n 0, 1) := by decide +kernel
theorem dX5_makePlan_24 : decode cX5_makePlan 24 = .ok (.getfield 10, 3) := by decide +kernel
theorem dX5_makePlan_27 : decode cX5_makePlan 27 = .ok (.getfield 287, 3) := by decide +kernel
theorem dX5_makePlan_30 : decode cX5_makePlan 30 = .ok (.aload_n 0, 1) := by decide +kernel
theorem dX5_makePlan_31 : decode cX5_makePlan 31 = .ok (.iload_n 1, 1) := by decide +kernel
theorem dX5_makePlan_32 : decode cX5_makePlan 32 = .ok (.iload_n 2, 1) := by decide +kernel
theorem dX5_makePlan_33 : decode cX5_makePlan 33 = .ok (.invokevirtual 348, 3) := by decide +kernel
theorem dX5_makePlan_36 : decode cX5_makePlan 36 = .ok (.aload_n 0, 1) := by decide +kernel
theorem dX5_makePlan_37 : decode cX5_makePlan 37 = .ok (.getfield 44, 3) := by decide +kernel
theorem dX5_makePlan_40 : decode cX5_makePlan 40 = .ok (.invokevirtual 365, 3) := by decide +kernel
theorem dX5_makePlan_43 : decode cX5_makePlan 43 = .ok (.iconst 0, 1) := by decide +kernel
theorem dX5_makePlan_44 : decode cX5_makePlan 44 = .ok (.istore_n 3, 1) := by decide +kernel
theorem dX5_makePlan_45 : decode cX5_makePlan 45 = .ok (.iload_n 3, 1) := by decide +kernel
theorem dX5_makePlan_46 : decode cX5_makePlan 46 = .ok (.aload_n 0, 1) := by decide +kernel
theorem dX5_makePlan_47 : decode cX5_makePlan 47 = .ok (.getfield 19, 3) := by decide +kernel
theorem dX5_makePlan_50 : decode cX5_makePlan 50 = .ok (.getfield 95, 3) := by decide +kernel
theorem dX5_makePlan_53 : decode cX5_makePlan 53 = .ok (.if_icmp .ge 34, 3) := by decide +kernel
theorem dX5_makePlan_56 : decode cX5_makePlan 56 = .ok (.iload_n 3, 1) := by decide +kernel
theorem dX5_makePlan_57 : decode cX5_makePlan 57 = .ok (.iload_n 1, 1) := by decide +kernel
theorem dX5_makePlan_58 : decode cX5_makePlan 58 = .ok (.if_icmp .eq 23, 3) := by decide +kernel
theorem dX5_makePlan_61 : decode cX5_makePlan 61 = .ok (.aload_n 0, 1) := by decide +kernel
theorem dX5_makePlan_62 : decode cX5_makePlan 62 = .ok (.aload_n 0, 1) := by decide +kernel
theorem dX5_makePlan_63 : decode cX5_makePlan 63 = .ok (.getfield 10, 3) := by decide +kernel
theorem dX5_makePlan_66 : decode cX5_makePlan 66 = .ok (.getfield 287, 3) := by decide +kernel
theorem dX5_makePlan_69 : decode cX5_makePlan 69 = .ok (.iload_n 3, 1) := by decide +kernel
theorem dX5_makePlan_70 : decode cX5_makePlan 70 = .ok (.invokevirtual 314, 3) := by decide +kernel
theorem dX5_makePlan_73 : decode cX5_makePlan 73 = .ok (.ifCond .ne 8, 3) := by decide +kernel
theorem dX5_makePlan_76 : decode cX5_makePlan 76 = .ok (.aload_n 0, 1) := by decide +kernel
theorem dX5_makePlan_77 : decode cX5_makePlan 77 = .ok (.iload_n 3, 1) := by decide +kernel
theorem dX5_makePlan_78 : decode cX5_makePlan 78 = .ok (.invokevirtual 368, 3) := by decide +kernel
theorem dX5_makePlan_81 : decode cX5_makePlan 81 = .ok (.iinc 3 1, 3) := by decide +kernel
theorem dX5_makePlan_84 : decode cX5_makePlan 84 = .ok (.goto (-39), 3) := by decide +kernel
theorem dX5_makePlan_87 : decode cX5_makePlan 87 = .ok (.aload_n 0, 1) := by decide +kernel
theorem dX5_makePlan_88 : decode cX5_makePlan 88 = .ok (.getfield 26, 3) := by decide +kernel
theorem dX5_makePlan_91 : decode cX5_makePlan 91 = .ok (.invokevirtual 371, 3) := by decide +kernel
theorem dX5_makePlan_94 : decode cX5_makePlan 94 = .ok (.return_, 1) := by decide +kernel
set_option maxRecDepth 20000 in
theorem ggX5_forbidPlacesOf_X5_lastOffset : GoodIn wsX5_forbidPlacesOf wsX5_lastOffset := goodIn_r _ [7, 2, 8, 25, 26, 27, 28, 29, 30, 31, 32, 33, 34, 35, 36, 37, 38, 39, 40, 41, 42, 43, 44, 45, 46] (by decide +kernel) (by decide +kernel)
set_option maxRecDepth 20000 in
theorem gX5_forbidPlacesOf_X5_lastOffset : GoodIn wsX5_forbidPlacesOf (wsV RX5 247 RX5 yX5_lastOffset wsX5_lastOffset) := goodIn_app (goodIn_of _ (by decide +kernel)) ggX5_forbidPlacesOf_X5_lastOffset
set_option maxRecDepth 20000 in
theorem ggX5_forbidPlacesOf_X1_placed : GoodIn wsX5_forbidPlacesOf wsX1_placed := goodIn_r _ [12, 13, 34, 35, 36, 37, 38, 39, 40] (by decide +kernel) (by decide +kernel)
set_option maxRecDepth 20000 in
theorem gX5_forbidPlacesOf_X1_placed_n250 : GoodIn wsX5_forbidPlacesOf (wsX1_placed) := ggX5_forbidPlacesOf_X1_placed
set_option maxRecDepth 20000 in
theorem ggX5_forbidPlacesOf_X2_forbid : GoodIn wsX5_forbidPlacesOf wsX2_forbid := goodIn_r _ [17, 18, 19, 20, 21, 6, 22, 23, 24, 47, 48, 49, 50, 51, 52, 53, 54] (by decide +kernel) (by decide +kernel)
set_option maxRecDepth 20000 in
theorem gX5_forbidPlacesOf_X2_forbid_n374 : GoodIn wsX5_forbidPlacesOf (wsX2_forbid) := ggX5_forbidPlacesOf_X2_forbid
theorem dX5_forbidPlacesOf_0 : decode cX5_forbidPlacesOf 0 = .ok (.iconst 0, 1) := by decide +kernel
theorem dX5_forbidPlacesOf_1 : decode cX5_forbidPlacesOf 1 = .ok (.istore_n 2, 1) := by decide +kernel
theorem dX5_forbidPlacesOf_2 : decode cX5_forbidPlacesOf 2 = .ok (.iload_n 2, 1) := by decide +kernel
theorem dX5_forbidPlacesOf_3 : decode cX5_forbidPlacesOf 3 = .ok (.aload_n 0, 1) := by decide +kernel
theorem dX5_forbidPlacesOf_4 : decode cX5_forbidPlacesOf 4 = .ok (.iload_n 1, 1) := by decide +kernel
theorem dX5_forbidPlacesOf_5 : decode cX5_forbidPlacesOf 5 = .ok (.invokevirtual 247, 3) := by decide +kernel
theorem dX5_forbidPlacesOf_8 : decode cX5_forbidPlacesOf 8 = .ok (.if_icmp .gt 25, 3) := by decide +kernel
theorem dX5_forbidPlacesOf_11 : decode cX5_forbidPlacesOf 11 = .ok (.aload_n 0, 1) := by decide +kernel
theorem dX5_forbidPlacesOf_12 : decode cX5_forbidPlacesOf 12 = .ok (.getfield 26, 3) := by decide +kernel
theorem dX5_forbidPlacesOf_15 : decode cX5_forbidPlacesOf 15 = .ok (.aload_n 0, 1) := by decide +kernel
theorem dX5_forbidPlacesOf_16 : decode cX5_forbidPlacesOf 16 = .ok (.getfield 19, 3) := by decide +kernel
theorem dX5_forbidPlacesOf_19 : decode cX5_forbidPlacesOf 19 = .ok (.iload_n 1, 1) := by decide +kernel
theorem dX5_forbidPlacesOf_20 : decode cX5_forbidPlacesOf 20 = .ok (.iload_n 2, 1) := by decide +kernel
theorem dX5_forbidPlacesOf_21 : decode cX5_forbidPlacesOf 21 = .ok (.invokevirtual 250, 3) := by decide +kernel
theorem dX5_forbidPlacesOf_24 : decode cX5_forbidPlacesOf 24 = .ok (.invokevirtual 374, 3) := by decide +kernel
theorem dX5_forbidPlacesOf_27 : decode cX5_forbidPlacesOf 27 = .ok (.iinc 2 1, 3) := by decide +kernel
theorem dX5_forbidPlacesOf_30 : decode cX5_forbidPlacesOf 30 = .ok (.goto (-28), 3) := by decide +kernel
theorem dX5_forbidPlacesOf_33 : decode cX5_forbidPlacesOf 33 = .ok (.return_, 1) := by decide +kernel
set_option maxRecDepth 20000 in
theorem ggX5_planIsTrue_X5_makePlan : GoodIn wsX5_planIsTrue wsX5_makePlan := goodIn_r _ [6, 1, 7, 8, 9, 10, 11, 12, 5, 13, 14, 15, 16, 17, 18, 19, 20, 21, 22, 23, 24, 25, 26, 27, 28, 29, 30, 31, 32, 33, 34, 35, 36, 37, 38, 39, 40, 41, 42, 43, 44, 45, 46, 47, 48, 49, 50, 51, 52, 53, 54, 55, 56, 57, 58, 59, 60, 61, 62, 63, 64, 65, 66, 67, 68, 69, 70, 71, 72, 73, 74, 75, 76, 77, 78, 79, 80, 81, 82, 83, 84, 85, 86, 87, 88, 89, 90, 91, 92, 93, 94, 95, 96, 97, 98, 99, 100, 101, 102, 103, 104, 105, 106, 107, 108, 109, 123, 124, 125, 126, 127, 128, 129, 130, 131, 140, 141, 142, 143, 144, 145, 146, 147, 148, 149, 150, 151, 152, 132, 133, 134, 135, 136, 137, 138, 139] (by decide +kernel) (by decide +kernel)
set_option maxRecDepth 20000 in
theorem gX5_planIsTrue_X5_makePlan : GoodIn wsX5_planIsTrue (wsV RX5 210 RX5 yX5_makePlan wsX5_makePlan) := goodIn_app (goodIn_of _ (by decide +kernel)) ggX5_planIsTrue_X5_makePlan
set_option maxRecDepth 20000 in
theorem ggX5_planIsTrue_X2_setOf : GoodIn wsX5_planIsTrue wsX2_setOf := goodIn_r _ [112, 38, 97, 72, 5, 73, 132, 133, 134, 135, 136, 137, 138, 139] (by decide +kernel) (by decide +kernel)
set_option maxRecDepth 20000 in
theorem gX5_planIsTrue_X2_setOf_n218 : GoodIn wsX5_planIsTrue (wsX2_setOf) := ggX5_planIsTrue_X2_setOf
set_option maxRecDepth 20000 in
theorem ggX5_planIsTrue_X2_pictureBehind : GoodIn wsX5_planIsTrue wsX2_pictureBehind := goodIn_r _ [115, 53, 54, 116, 117, 5, 118, 132, 133, 134, 135, 136, 137, 138, 139] (by decide +kernel) (by decide +kernel)
set_option maxRecDepth 20000 in
theorem gX5_planIsTrue_X2_pictureBehind_n377 : GoodIn wsX5_planIsTrue (wsX2_pictureBehind) := ggX5_planIsTrue_X2_pictureBehind
set_option maxRecDepth 20000 in
theorem ggX5_planIsTrue_X5_isWrong : GoodIn wsX5_planIsTrue wsX5_isWrong := goodIn_r _ [122, 9, 7, 74, 75, 76, 5, 77, 78, 79, 80, 81, 14, 15, 16, 17, 22, 23, 24, 25, 26, 27, 28, 29, 30, 31, 32, 33, 82, 83, 84, 123, 124, 125, 126, 127, 128, 129, 130, 131, 146, 147, 148, 149, 150, 151, 152, 140, 141, 142, 143, 144, 145] (by decide +kernel) (by decide +kernel)
set_option maxRecDepth 20000 in
theorem gX5_planIsTrue_X5_isWrong : GoodIn wsX5_planIsTrue (wsV RX5 381 RX5 yX5_isWrong wsX5_isWrong) := goodIn_app (goodIn_of _ (by decide +kernel)) ggX5_planIsTrue_X5_isWrong
theorem dX5_planIsTrue_0 : decode cX5_planIsTrue 0 = .ok (.aload_n 0, 1) := by decide +kernel
theorem dX5_planIsTrue_1 : decode cX5_planIsTrue 1 = .ok (.iload_n 1, 1) := by decide +kernel
theorem dX5_planIsTrue_2 : decode cX5_planIsTrue 2 = .ok (.invokevirtual 210, 3) := by decide +kernel
theorem dX5_planIsTrue_5 : decode cX5_planIsTrue 5 = .ok (.iconst 0, 1) := by decide +kernel
theorem dX5_planIsTrue_6 : decode cX5_planIsTrue 6 = .ok (.istore_n 2, 1) := by decide +kernel
theorem dX5_planIsTrue_7 : decode cX5_planIsTrue 7 = .ok (.iconst 0, 1) := by decide +kernel
theorem dX5_planIsTrue_8 : decode cX5_planIsTrue 8 = .ok (.istore_n 3, 1) := by decide +kernel
theorem dX5_planIsTrue_9 : decode cX5_planIsTrue 9 = .ok (.iload_n 3, 1) := by decide +kernel
theorem dX5_planIsTrue_10 : decode cX5_planIsTrue 10 = .ok (.aload_n 0, 1) := by decide +kernel
theorem dX5_planIsTrue_11 : decode cX5_planIsTrue 11 = .ok (.getfield 26, 3) := by decide +kernel
theorem dX5_planIsTrue_14 : decode cX5_planIsTrue 14 = .ok (.getfield 318, 3) := by decide +kernel
theorem dX5_planIsTrue_17 : decode cX5_planIsTrue 17 = .ok (.iconst 1, 1) := by decide +kernel
theorem dX5_planIsTrue_18 : decode cX5_planIsTrue 18 = .ok (.isub, 1) := by decide +kernel
theorem dX5_planIsTrue_19 : decode cX5_planIsTrue 19 = .ok (.if_icmp .ge 38, 3) := by decide +kernel
theorem dX5_planIsTrue_22 : decode cX5_planIsTrue 22 = .ok (.iload_n 2, 1) := by decide +kernel
theorem dX5_planIsTrue_23 : decode cX5_planIsTrue 23 = .ok (.aload_n 0, 1) := by decide +kernel
theorem dX5_planIsTrue_24 : decode cX5_planIsTrue 24 = .ok (.getfield 26, 3) := by decide +kernel
theorem dX5_planIsTrue_27 : decode cX5_planIsTrue 27 = .ok (.iload_n 3, 1) := by decide +kernel
theorem dX5_planIsTrue_28 : decode cX5_planIsTrue 28 = .ok (.invokevirtual 218, 3) := by decide +kernel
theorem dX5_planIsTrue_31 : decode cX5_planIsTrue 31 = .ok (.ior, 1) := by decide +kernel
theorem dX5_planIsTrue_32 : decode cX5_planIsTrue 32 = .ok (.istore_n 2, 1) := by decide +kernel
theorem dX5_planIsTrue_33 : decode cX5_planIsTrue 33 = .ok (.aload_n 0, 1) := by decide +kernel
theorem dX5_planIsTrue_34 : decode cX5_planIsTrue 34 = .ok (.aload_n 0, 1) := by decide +kernel
theorem dX5_planIsTrue_35 : decode cX5_planIsTrue 35 = .ok (.getfield 26, 3) := by decide +kernel
theorem dX5_planIsTrue_38 : decode cX5_planIsTrue 38 = .ok (.iload_n 2, 1) := by decide +kernel
theorem dX5_planIsTrue_39 : decode cX5_planIsTrue 39 = .ok (.invokevirtual 377, 3) := by decide +kernel
theorem dX5_planIsTrue_42 : decode cX5_planIsTrue 42 = .ok (.iload_n 1, 1) := by decide +kernel
theorem dX5_planIsTrue_43 : decode cX5_planIsTrue 43 = .ok (.invokevirtual 381, 3) := by decide +kernel
theorem dX5_planIsTrue_46 : decode cX5_planIsTrue 46 = .ok (.ifCond .eq 5, 3) := by decide +kernel
theorem dX5_planIsTrue_49 : decode cX5_planIsTrue 49 = .ok (.iconst 0, 1) := by decide +kernel
theorem dX5_planIsTrue_50 : decode cX5_planIsTrue 50 = .ok (.ireturn, 1) := by decide +kernel
theorem dX5_planIsTrue_51 : decode cX5_planIsTrue 51 = .ok (.iinc 3 1, 3) := by decide +kernel
theorem dX5_planIsTrue_54 : decode cX5_planIsTrue 54 = .ok (.goto (-45), 3) := by decide +kernel
theorem dX5_planIsTrue_57 : decode cX5_planIsTrue 57 = .ok (.iconst 1, 1) := by decide +kernel
theorem dX5_planIsTrue_58 : decode cX5_planIsTrue 58 = .ok (.ireturn, 1) := by decide +kernel
set_option maxRecDepth 20000 in
theorem ggX5_isWrong_X5_says : GoodIn wsX5_isWrong wsX5_says := goodIn_r _ [7, 8, 9, 10, 6, 11, 1, 12, 13, 14, 15, 2, 16, 17, 18, 19, 20, 21, 22, 23, 24, 25, 26, 27, 28, 29, 30, 31, 32, 33, 34, 35, 36, 37, 38, 39, 40, 41, 42, 43, 44, 45, 46, 47, 48, 49, 50, 51, 52] (by decide +kernel) (by decide +kernel)
set_option maxRecDepth 20000 in
theorem gX5_isWrong_X5_says : GoodIn wsX5_isWrong (wsV RX5 314 RX5 yX5_says wsX5_says) := goodIn_app (goodIn_of _ (by decide +kernel)) ggX5_isWrong_X5_says
theorem dX5_isWrong_0 : decode cX5_isWrong 0 = .ok (.iconst 0, 1) := by decide +kernel
theorem dX5_isWrong_1 : decode cX5_isWrong 1 = .ok (.istore 4, 2) := by decide +kernel
theorem dX5_isWrong_3 : decode cX5_isWrong 3 = .ok (.iload 4, 2) := by decide +kernel
theorem dX5_isWrong_5 : decode cX5_isWrong 5 = .ok (.aload_n 0, 1) := by decide +kernel
theorem dX5_isWrong_6 : decode cX5_isWrong 6 = .ok (.getfield 19, 3) := by decide +kernel
theorem dX5_isWrong_9 : decode cX5_isWrong 9 = .ok (.getfield 95, 3) := by decide +kernel
theorem dX5_isWrong_12 : decode cX5_isWrong 12 = .ok (.if_icmp .ge 43, 3) := by decide +kernel
theorem dX5_isWrong_15 : decode cX5_isWrong 15 = .ok (.iload 4, 2) := by decide +kernel
theorem dX5_isWrong_17 : decode cX5_isWrong 17 = .ok (.iload_n 3, 1) := by decide +kernel
theorem dX5_isWrong_18 : decode cX5_isWrong 18 = .ok (.if_icmp .eq 31, 3) := by decide +kernel
theorem dX5_isWrong_21 : decode cX5_isWrong 21 = .ok (.aload_n 0, 1) := by decide +kernel
theorem dX5_isWrong_22 : decode cX5_isWrong 22 = .ok (.lload_n 1, 1) := by decide +kernel
theorem dX5_isWrong_23 : decode cX5_isWrong 23 = .ok (.iload 4, 2) := by decide +kernel
theorem dX5_isWrong_25 : decode cX5_isWrong 25 = .ok (.invokevirtual 314, 3) := by decide +kernel
theorem dX5_isWrong_28 : decode cX5_isWrong 28 = .ok (.ifCond .eq 21, 3) := by decide +kernel
theorem dX5_isWrong_31 : decode cX5_isWrong 31 = .ok (.aload_n 0, 1) := by decide +kernel
theorem dX5_isWrong_32 : decode cX5_isWrong 32 = .ok (.aload_n 0, 1) := by decide +kernel
theorem dX5_isWrong_33 : decode cX5_isWrong 33 = .ok (.getfield 10, 3) := by decide +kernel
theorem dX5_isWrong_36 : decode cX5_isWrong 36 = .ok (.getfield 287, 3) := by decide +kernel
theorem dX5_isWrong_39 : decode cX5_isWrong 39 = .ok (.iload 4, 2) := by decide +kernel
theorem dX5_isWrong_41 : decode cX5_isWrong 41 = .ok (.invokevirtual 314, 3) := by decide +kernel
theorem dX5_isWrong_44 : decode cX5_isWrong 44 = .ok (.ifCond .ne 5, 3) := by decide +kernel
theorem dX5_isWrong_47 : decode cX5_isWrong 47 = .ok (.iconst 1, 1) := by decide +kernel
theorem dX5_isWrong_48 : decode cX5_isWrong 48 = .ok (.ireturn, 1) := by decide +kernel
theorem dX5_isWrong_49 : decode cX5_isWrong 49 = .ok (.iinc 4 1, 3) := by decide +kernel
theorem dX5_isWrong_52 : decode cX5_isWrong 52 = .ok (.goto (-49), 3) := by decide +kernel
theorem dX5_isWrong_55 : decode cX5_isWrong 55 = .ok (.iconst 0, 1) := by decide +kernel
theorem dX5_isWrong_56 : decode cX5_isWrong 56 = .ok (.ireturn, 1) := by decide +kernel
theorem dX5_bitOf_0 : decode cX5_bitOf 0 = .ok (.iconst 5, 1) := by decide +kernel
theorem dX5_bitOf_1 : decode cX5_bitOf 1 = .ok (.iload_n 0, 1) := by decide +kernel
theorem dX5_bitOf_2 : decode cX5_bitOf 2 = .ok (.imul, 1) := by decide +kernel
theorem dX5_bitOf_3 : decode cX5_bitOf 3 = .ok (.iload_n 1, 1) := by decide +kernel
theorem dX5_bitOf_4 : decode cX5_bitOf 4 = .ok (.iadd, 1) := by decide +kernel
theorem dX5_bitOf_5 : decode cX5_bitOf 5 = .ok (.ireturn, 1) := by decide +kernel
set_option maxRecDepth 20000 in
theorem ggX5_dotIn_X5_bitOf : GoodIn wsX5_dotIn wsX5_bitOf := goodIn_r _ [4] (by decide +kernel) (by decide +kernel)
set_option maxRecDepth 20000 in
theorem gX5_dotIn_X5_bitOf : GoodIn wsX5_dotIn (va_wsS RX5 199 yX5_bitOf wsX5_bitOf) := goodIn_app (goodIn_of _ (by decide +kernel)) ggX5_dotIn_X5_bitOf
theorem dX5_dotIn_0 : decode cX5_dotIn 0 = .ok (.lconst 1, 1) := by decide +kernel
theorem dX5_dotIn_1 : decode cX5_dotIn 1 = .ok (.iload_n 0, 1) := by decide +kernel
theorem dX5_dotIn_2 : decode cX5_dotIn 2 = .ok (.iload_n 1, 1) := by decide +kernel
theorem dX5_dotIn_3 : decode cX5_dotIn 3 = .ok (.invokestatic 199, 3) := by decide +kernel
theorem dX5_dotIn_6 : decode cX5_dotIn 6 = .ok (.lshl, 1) := by decide +kernel
theorem dX5_dotIn_7 : decode cX5_dotIn 7 = .ok (.lreturn, 1) := by decide +kernel
theorem dX5_setIn_0 : decode cX5_setIn 0 = .ok (.lload_n 0, 1) := by decide +kernel
theorem dX5_setIn_1 : decode cX5_setIn 1 = .ok (.iconst 5, 1) := by decide +kernel
theorem dX5_setIn_2 : decode cX5_setIn 2 = .ok (.iload_n 2, 1) := by decide +kernel
theorem dX5_setIn_3 : decode cX5_setIn 3 = .ok (.imul, 1) := by decide +kernel
theorem dX5_setIn_4 : decode cX5_setIn 4 = .ok (.lushr, 1) := by decide +kernel
theorem dX5_setIn_5 : decode cX5_setIn 5 = .ok (.l2i, 1) := by decide +kernel
theorem dX5_setIn_6 : decode cX5_setIn 6 = .ok (.bipush 31, 2) := by decide +kernel
theorem dX5_setIn_8 : decode cX5_setIn 8 = .ok (.iand, 1) := by decide +kernel
theorem dX5_setIn_9 : decode cX5_setIn 9 = .ok (.ireturn, 1) := by decide +kernel
theorem dX5_lesser_0 : decode cX5_lesser 0 = .ok (.iload_n 0, 1) := by decide +kernel
theorem dX5_lesser_1 : decode cX5_lesser 1 = .ok (.iconst (-1), 1) := by decide +kernel
theorem dX5_lesser_2 : decode cX5_lesser 2 = .ok (.if_icmp .eq 13, 3) := by decide +kernel
theorem dX5_lesser_5 : decode cX5_lesser 5 = .ok (.iload_n 1, 1) := by decide +kernel
theorem dX5_lesser_6 : decode cX5_lesser 6 = .ok (.iconst (-1), 1) := by decide +kernel
theorem dX5_lesser_7 : decode cX5_lesser 7 = .ok (.if_icmp .eq 12, 3) := by decide +kernel
theorem dX5_lesser_10 : decode cX5_lesser 10 = .ok (.iload_n 1, 1) := by decide +kernel
theorem dX5_lesser_11 : decode cX5_lesser 11 = .ok (.iload_n 0, 1) := by decide +kernel
theorem dX5_lesser_12 : decode cX5_lesser 12 = .ok (.if_icmp .ge 7, 3) := by decide +kernel
theorem dX5_lesser_15 : decode cX5_lesser 15 = .ok (.iload_n 1, 1) := by decide +kernel
theorem dX5_lesser_16 : decode cX5_lesser 16 = .ok (.goto 4, 3) := by decide +kernel
theorem dX5_lesser_19 : decode cX5_lesser 19 = .ok (.iload_n 0, 1) := by decide +kernel
theorem dX5_lesser_20 : decode cX5_lesser 20 = .ok (.ireturn, 1) := by decide +kernel
theorem dX5_at_0 : decode cX5_at 0 = .ok (.iload_n 1, 1) := by decide +kernel
theorem dX5_at_1 : decode cX5_at 1 = .ok (.ifCond .lt 15, 3) := by decide +kernel
theorem dX5_at_4 : decode cX5_at 4 = .ok (.iload_n 1, 1) := by decide +kernel
theorem dX5_at_5 : decode cX5_at 5 = .ok (.aload_n 0, 1) := by decide +kernel
theorem dX5_at_6 : decode cX5_at 6 = .ok (.arraylength, 1) := by decide +kernel
theorem dX5_at_7 : decode cX5_at 7 = .ok (.if_icmp .ge 9, 3) := by decide +kernel
theorem dX5_at_10 : decode cX5_at 10 = .ok (.aload_n 0, 1) := by decide +kernel
theorem dX5_at_11 : decode cX5_at 11 = .ok (.iload_n 1, 1) := by decide +kernel
theorem dX5_at_12 : decode cX5_at 12 = .ok (.iaload, 1) := by decide +kernel
theorem dX5_at_13 : decode cX5_at 13 = .ok (.goto 4, 3) := by decide +kernel
theorem dX5_at_16 : decode cX5_at 16 = .ok (.iconst 0, 1) := by decide +kernel
theorem dX5_at_17 : decode cX5_at 17 = .ok (.ireturn, 1) := by decide +kernel
theorem dX5_put_0 : decode cX5_put 0 = .ok (.iload_n 1, 1) := by decide +kernel
theorem dX5_put_1 : decode cX5_put 1 = .ok (.ifCond .lt 13, 3) := by decide +kernel
theorem dX5_put_4 : decode cX5_put 4 = .ok (.iload_n 1, 1) := by decide +kernel
theorem dX5_put_5 : decode cX5_put 5 = .ok (.aload_n 0, 1) := by decide +kernel
theorem dX5_put_6 : decode cX5_put 6 = .ok (.arraylength, 1) := by decide +kernel
theorem dX5_put_7 : decode cX5_put 7 = .ok (.if_icmp .ge 7, 3) := by decide +kernel
theorem dX5_put_10 : decode cX5_put 10 = .ok (.aload_n 0, 1) := by decide +kernel
theorem dX5_put_11 : decode cX5_put 11 = .ok (.iload_n 1, 1) := by decide +kernel
theorem dX5_put_12 : decode cX5_put 12 = .ok (.iload_n 2, 1) := by decide +kernel
theorem dX5_put_13 : decode cX5_put 13 = .ok (.iastore, 1) := by decide +kernel
theorem dX5_put_14 : decode cX5_put 14 = .ok (.return_, 1) := by decide +kernel
theorem dX5_put__0 : decode cX5_put_ 0 = .ok (.iload_n 1, 1) := by decide +kernel
theorem dX5_put__1 : decode cX5_put_ 1 = .ok (.ifCond .lt 13, 3) := by decide +kernel
theorem dX5_put__4 : decode cX5_put_ 4 = .ok (.iload_n 1, 1) := by decide +kernel
theorem dX5_put__5 : decode cX5_put_ 5 = .ok (.aload_n 0, 1) := by decide +kernel
theorem dX5_put__6 : decode cX5_put_ 6 = .ok (.arraylength, 1) := by decide +kernel
theorem dX5_put__7 : decode cX5_put_ 7 = .ok (.if_icmp .ge 7, 3) := by decide +kernel
theorem dX5_put__10 : decode cX5_put_ 10 = .ok (.aload_n 0, 1) := by decide +kernel
theorem dX5_put__11 : decode cX5_put_ 11 = .ok (.iload_n 1, 1) := by decide +kernel
theorem dX5_put__12 : decode cX5_put_ 12 = .ok (.lload_n 2, 1) := by decide +kernel
theorem dX5_put__13 : decode cX5_put_ 13 = .ok (.lastore, 1) := by decide +kernel
theorem dX5_put__14 : decode cX5_put_ 14 = .ok (.return_, 1) := by decide +kernel
theorem dJ6_bitCount_0f7a4_0 : decode cJ6_bitCount_0f7a4 0 = .ok (.iload_n 0, 1) := by decide +kernel
theorem dJ6_bitCount_0f7a4_1 : decode cJ6_bitCount_0f7a4 1 = .ok (.iload_n 0, 1) := by decide +kernel
theorem dJ6_bitCount_0f7a4_2 : decode cJ6_bitCount_0f7a4 2 = .ok (.iconst 1, 1) := by decide +kernel
theorem dJ6_bitCount_0f7a4_3 : decode cJ6_bitCount_0f7a4 3 = .ok (.iushr, 1) := by decide +kernel
theorem dJ6_bitCount_0f7a4_4 : decode cJ6_bitCount_0f7a4 4 = .ok (.ldc_w 265, 3) := by decide +kernel
theorem dJ6_bitCount_0f7a4_7 : decode cJ6_bitCount_0f7a4 7 = .ok (.iand, 1) := by decide +kernel
theorem dJ6_bitCount_0f7a4_8 : decode cJ6_bitCount_0f7a4 8 = .ok (.isub, 1) := by decide +kernel
theorem dJ6_bitCount_0f7a4_9 : decode cJ6_bitCount_0f7a4 9 = .ok (.istore_n 0, 1) := by decide +kernel
theorem dJ6_bitCount_0f7a4_10 : decode cJ6_bitCount_0f7a4 10 = .ok (.iload_n 0, 1) := by decide +kernel
theorem dJ6_bitCount_0f7a4_11 : decode cJ6_bitCount_0f7a4 11 = .ok (.ldc_w 266, 3) := by decide +kernel
theorem dJ6_bitCount_0f7a4_14 : decode cJ6_bitCount_0f7a4 14 = .ok (.iand, 1) := by decide +kernel
theorem dJ6_bitCount_0f7a4_15 : decode cJ6_bitCount_0f7a4 15 = .ok (.iload_n 0, 1) := by decide +kernel
theorem dJ6_bitCount_0f7a4_16 : decode cJ6_bitCount_0f7a4 16 = .ok (.iconst 2, 1) := by decide +kernel
theorem dJ6_bitCount_0f7a4_17 : decode cJ6_bitCount_0f7a4 17 = .ok (.iushr, 1) := by decide +kernel
theorem dJ6_bitCount_0f7a4_18 : decode cJ6_bitCount_0f7a4 18 = .ok (.ldc_w 266, 3) := by decide +kernel
theorem dJ6_bitCount_0f7a4_21 : decode cJ6_bitCount_0f7a4 21 = .ok (.iand, 1) := by decide +kernel
theorem dJ6_bitCount_0f7a4_22 : decode cJ6_bitCount_0f7a4 22 = .ok (.iadd, 1) := by decide +kernel
theorem dJ6_bitCount_0f7a4_23 : decode cJ6_bitCount_0f7a4 23 = .ok (.istore_n 0, 1) := by decide +kernel
theorem dJ6_bitCount_0f7a4_24 : decode cJ6_bitCount_0f7a4 24 = .ok (.iload_n 0, 1) := by decide +kernel
theorem dJ6_bitCount_0f7a4_25 : decode cJ6_bitCount_0f7a4 25 = .ok (.iload_n 0, 1) := by decide +kernel
theorem dJ6_bitCount_0f7a4_26 : decode cJ6_bitCount_0f7a4 26 = .ok (.iconst 4, 1) := by decide +kernel
theorem dJ6_bitCount_0f7a4_27 : decode cJ6_bitCount_0f7a4 27 = .ok (.iushr, 1) := by decide +kernel
theorem dJ6_bitCount_0f7a4_28 : decode cJ6_bitCount_0f7a4 28 = .ok (.iadd, 1) := by decide +kernel
theorem dJ6_bitCount_0f7a4_29 : decode cJ6_bitCount_0f7a4 29 = .ok (.ldc_w 267, 3) := by decide +kernel
theorem dJ6_bitCount_0f7a4_32 : decode cJ6_bitCount_0f7a4 32 = .ok (.iand, 1) := by decide +kernel
theorem dJ6_bitCount_0f7a4_33 : decode cJ6_bitCount_0f7a4 33 = .ok (.istore_n 0, 1) := by decide +kernel
theorem dJ6_bitCount_0f7a4_34 : decode cJ6_bitCount_0f7a4 34 = .ok (.iload_n 0, 1) := by decide +kernel
theorem dJ6_bitCount_0f7a4_35 : decode cJ6_bitCount_0f7a4 35 = .ok (.iload_n 0, 1) := by decide +kernel
theorem dJ6_bitCount_0f7a4_36 : decode cJ6_bitCount_0f7a4 36 = .ok (.bipush 8, 2) := by decide +kernel
theorem dJ6_bitCount_0f7a4_38 : decode cJ6_bitCount_0f7a4 38 = .ok (.iushr, 1) := by decide +kernel
end
section
theorem dJ6_bitCount_0f7a4_39 : decode cJ6_bitCount_0f7a4 39 = .ok (.iadd, 1) := by decide +kernel
theorem dJ6_bitCount_0f7a4_40 : decode cJ6_bitCount_0f7a4 40 = .ok (.istore_n 0, 1) := by decide +kernel
theorem dJ6_bitCount_0f7a4_41 : decode cJ6_bitCount_0f7a4 41 = .ok (.iload_n 0, 1) := by decide +kernel
theorem dJ6_bitCount_0f7a4_42 : decode cJ6_bitCount_0f7a4 42 = .ok (.iload_n 0, 1) := by decide +kernel
theorem dJ6_bitCount_0f7a4_43 : decode cJ6_bitCount_0f7a4 43 = .ok (.bipush 16, 2) := by decide +kernel
theorem dJ6_bitCount_0f7a4_45 : decode cJ6_bitCount_0f7a4 45 = .ok (.iushr, 1) := by decide +kernel
theorem dJ6_bitCount_0f7a4_46 : decode cJ6_bitCount_0f7a4 46 = .ok (.iadd, 1) := by decide +kernel
theorem dJ6_bitCount_0f7a4_47 : decode cJ6_bitCount_0f7a4 47 = .ok (.istore_n 0, 1) := by decide +kernel
theorem dJ6_bitCount_0f7a4_48 : decode cJ6_bitCount_0f7a4 48 = .ok (.iload_n 0, 1) := by decide +kernel
theorem dJ6_bitCount_0f7a4_49 : decode cJ6_bitCount_0f7a4 49 = .ok (.bipush 63, 2) := by decide +kernel
theorem dJ6_bitCount_0f7a4_51 : decode cJ6_bitCount_0f7a4 51 = .ok (.iand, 1) := by decide +kernel
theorem dJ6_bitCount_0f7a4_52 : decode cJ6_bitCount_0f7a4 52 = .ok (.ireturn, 1) := by decide +kernel
theorem dJ13_bitCount_95d88_0 : decode cJ13_bitCount_95d88 0 = .ok (.lload_n 0, 1) := by decide +kernel
theorem dJ13_bitCount_95d88_1 : decode cJ13_bitCount_95d88 1 = .ok (.lload_n 0, 1) := by decide +kernel
theorem dJ13_bitCount_95d88_2 : decode cJ13_bitCount_95d88 2 = .ok (.iconst 1, 1) := by decide +kernel
theorem dJ13_bitCount_95d88_3 : decode cJ13_bitCount_95d88 3 = .ok (.lushr, 1) := by decide +kernel
theorem dJ13_bitCount_95d88_4 : decode cJ13_bitCount_95d88 4 = .ok (.ldc2_w 314, 3) := by decide +kernel
theorem dJ13_bitCount_95d88_7 : decode cJ13_bitCount_95d88 7 = .ok (.land, 1) := by decide +kernel
theorem dJ13_bitCount_95d88_8 : decode cJ13_bitCount_95d88 8 = .ok (.lsub, 1) := by decide +kernel
theorem dJ13_bitCount_95d88_9 : decode cJ13_bitCount_95d88 9 = .ok (.lstore_n 0, 1) := by decide +kernel
theorem dJ13_bitCount_95d88_10 : decode cJ13_bitCount_95d88 10 = .ok (.lload_n 0, 1) := by decide +kernel
theorem dJ13_bitCount_95d88_11 : decode cJ13_bitCount_95d88 11 = .ok (.ldc2_w 316, 3) := by decide +kernel
theorem dJ13_bitCount_95d88_14 : decode cJ13_bitCount_95d88 14 = .ok (.land, 1) := by decide +kernel
theorem dJ13_bitCount_95d88_15 : decode cJ13_bitCount_95d88 15 = .ok (.lload_n 0, 1) := by decide +kernel
theorem dJ13_bitCount_95d88_16 : decode cJ13_bitCount_95d88 16 = .ok (.iconst 2, 1) := by decide +kernel
theorem dJ13_bitCount_95d88_17 : decode cJ13_bitCount_95d88 17 = .ok (.lushr, 1) := by decide +kernel
theorem dJ13_bitCount_95d88_18 : decode cJ13_bitCount_95d88 18 = .ok (.ldc2_w 316, 3) := by decide +kernel
theorem dJ13_bitCount_95d88_21 : decode cJ13_bitCount_95d88 21 = .ok (.land, 1) := by decide +kernel
theorem dJ13_bitCount_95d88_22 : decode cJ13_bitCount_95d88 22 = .ok (.ladd, 1) := by decide +kernel
theorem dJ13_bitCount_95d88_23 : decode cJ13_bitCount_95d88 23 = .ok (.lstore_n 0, 1) := by decide +kernel
theorem dJ13_bitCount_95d88_24 : decode cJ13_bitCount_95d88 24 = .ok (.lload_n 0, 1) := by decide +kernel
theorem dJ13_bitCount_95d88_25 : decode cJ13_bitCount_95d88 25 = .ok (.lload_n 0, 1) := by decide +kernel
theorem dJ13_bitCount_95d88_26 : decode cJ13_bitCount_95d88 26 = .ok (.iconst 4, 1) := by decide +kernel
theorem dJ13_bitCount_95d88_27 : decode cJ13_bitCount_95d88 27 = .ok (.lushr, 1) := by decide +kernel
theorem dJ13_bitCount_95d88_28 : decode cJ13_bitCount_95d88 28 = .ok (.ladd, 1) := by decide +kernel
theorem dJ13_bitCount_95d88_29 : decode cJ13_bitCount_95d88 29 = .ok (.ldc2_w 318, 3) := by decide +kernel
theorem dJ13_bitCount_95d88_32 : decode cJ13_bitCount_95d88 32 = .ok (.land, 1) := by decide +kernel
theorem dJ13_bitCount_95d88_33 : decode cJ13_bitCount_95d88 33 = .ok (.lstore_n 0, 1) := by decide +kernel
theorem dJ13_bitCount_95d88_34 : decode cJ13_bitCount_95d88 34 = .ok (.lload_n 0, 1) := by decide +kernel
theorem dJ13_bitCount_95d88_35 : decode cJ13_bitCount_95d88 35 = .ok (.lload_n 0, 1) := by decide +kernel
theorem dJ13_bitCount_95d88_36 : decode cJ13_bitCount_95d88 36 = .ok (.bipush 8, 2) := by decide +kernel
theorem dJ13_bitCount_95d88_38 : decode cJ13_bitCount_95d88 38 = .ok (.lushr, 1) := by decide +kernel
theorem dJ13_bitCount_95d88_39 : decode cJ13_bitCount_95d88 39 = .ok (.ladd, 1) := by decide +kernel
theorem dJ13_bitCount_95d88_40 : decode cJ13_bitCount_95d88 40 = .ok (.lstore_n 0, 1) := by decide +kernel
theorem dJ13_bitCount_95d88_41 : decode cJ13_bitCount_95d88 41 = .ok (.lload_n 0, 1) := by decide +kernel
theorem dJ13_bitCount_95d88_42 : decode cJ13_bitCount_95d88 42 = .ok (.lload_n 0, 1) := by decide +kernel
theorem dJ13_bitCount_95d88_43 : decode cJ13_bitCount_95d88 43 = .ok (.bipush 16, 2) := by decide +kernel
theorem dJ13_bitCount_95d88_45 : decode cJ13_bitCount_95d88 45 = .ok (.lushr, 1) := by decide +kernel
theorem dJ13_bitCount_95d88_46 : decode cJ13_bitCount_95d88 46 = .ok (.ladd, 1) := by decide +kernel
theorem dJ13_bitCount_95d88_47 : decode cJ13_bitCount_95d88 47 = .ok (.lstore_n 0, 1) := by decide +kernel
theorem dJ13_bitCount_95d88_48 : decode cJ13_bitCount_95d88 48 = .ok (.lload_n 0, 1) := by decide +kernel
theorem dJ13_bitCount_95d88_49 : decode cJ13_bitCount_95d88 49 = .ok (.lload_n 0, 1) := by decide +kernel
theorem dJ13_bitCount_95d88_50 : decode cJ13_bitCount_95d88 50 = .ok (.bipush 32, 2) := by decide +kernel
theorem dJ13_bitCount_95d88_52 : decode cJ13_bitCount_95d88 52 = .ok (.lushr, 1) := by decide +kernel
theorem dJ13_bitCount_95d88_53 : decode cJ13_bitCount_95d88 53 = .ok (.ladd, 1) := by decide +kernel
theorem dJ13_bitCount_95d88_54 : decode cJ13_bitCount_95d88 54 = .ok (.lstore_n 0, 1) := by decide +kernel
theorem dJ13_bitCount_95d88_55 : decode cJ13_bitCount_95d88 55 = .ok (.lload_n 0, 1) := by decide +kernel
theorem dJ13_bitCount_95d88_56 : decode cJ13_bitCount_95d88 56 = .ok (.l2i, 1) := by decide +kernel
theorem dJ13_bitCount_95d88_57 : decode cJ13_bitCount_95d88 57 = .ok (.bipush 127, 2) := by decide +kernel
theorem dJ13_bitCount_95d88_59 : decode cJ13_bitCount_95d88 59 = .ok (.iand, 1) := by decide +kernel
theorem dJ13_bitCount_95d88_60 : decode cJ13_bitCount_95d88 60 = .ok (.ireturn, 1) := by decide +kernel
theorem dJ9_max_7cf53_0 : decode cJ9_max_7cf53 0 = .ok (.iload_n 0, 1) := by decide +kernel
theorem dJ9_max_7cf53_1 : decode cJ9_max_7cf53 1 = .ok (.iload_n 1, 1) := by decide +kernel
theorem dJ9_max_7cf53_2 : decode cJ9_max_7cf53 2 = .ok (.if_icmp .lt 7, 3) := by decide +kernel
theorem dJ9_max_7cf53_5 : decode cJ9_max_7cf53 5 = .ok (.iload_n 0, 1) := by decide +kernel
theorem dJ9_max_7cf53_6 : decode cJ9_max_7cf53 6 = .ok (.goto 4, 3) := by decide +kernel
theorem dJ9_max_7cf53_9 : decode cJ9_max_7cf53 9 = .ok (.iload_n 1, 1) := by decide +kernel
theorem dJ9_max_7cf53_10 : decode cJ9_max_7cf53 10 = .ok (.ireturn, 1) := by decide +kernel
theorem dL_below_0 : decode cL_below 0 = .ok (.iload_n 0, 1) := by decide +kernel
theorem dL_below_1 : decode cL_below 1 = .ok (.ldc 7, 2) := by decide +kernel
theorem dL_below_3 : decode cL_below 3 = .ok (.iand, 1) := by decide +kernel
theorem dL_below_4 : decode cL_below 4 = .ok (.iload_n 1, 1) := by decide +kernel
theorem dL_below_5 : decode cL_below 5 = .ok (.irem, 1) := by decide +kernel
theorem dL_below_6 : decode cL_below 6 = .ok (.ireturn, 1) := by decide +kernel
theorem dL_cell_0 : decode cL_cell 0 = .ok (.iload_n 1, 1) := by decide +kernel
theorem dL_cell_1 : decode cL_cell 1 = .ok (.aload_n 0, 1) := by decide +kernel
theorem dL_cell_2 : decode cL_cell 2 = .ok (.arraylength, 1) := by decide +kernel
theorem dL_cell_3 : decode cL_cell 3 = .ok (.if_icmp .ge 9, 3) := by decide +kernel
theorem dL_cell_6 : decode cL_cell 6 = .ok (.aload_n 0, 1) := by decide +kernel
theorem dL_cell_7 : decode cL_cell 7 = .ok (.iload_n 1, 1) := by decide +kernel
theorem dL_cell_8 : decode cL_cell 8 = .ok (.iaload, 1) := by decide +kernel
theorem dL_cell_9 : decode cL_cell 9 = .ok (.goto 9, 3) := by decide +kernel
theorem dL_cell_12 : decode cL_cell 12 = .ok (.ldc 8, 2) := by decide +kernel
theorem dL_cell_14 : decode cL_cell 14 = .ok (.iload_n 1, 1) := by decide +kernel
theorem dL_cell_15 : decode cL_cell 15 = .ok (.iconst 3, 1) := by decide +kernel
theorem dL_cell_16 : decode cL_cell 16 = .ok (.iadd, 1) := by decide +kernel
theorem dL_cell_17 : decode cL_cell 17 = .ok (.imul, 1) := by decide +kernel
theorem dL_cell_18 : decode cL_cell 18 = .ok (.ireturn, 1) := by decide +kernel
theorem dL_law_0 : decode cL_law 0 = .ok (.new 9, 3) := by decide +kernel
theorem dL_law_3 : decode cL_law 3 = .ok (.dup, 1) := by decide +kernel
theorem dL_law_4 : decode cL_law 4 = .ok (.invokespecial 11, 3) := by decide +kernel
theorem dL_law_7 : decode cL_law 7 = .ok (.astore_n 1, 1) := by decide +kernel
theorem dL_law_8 : decode cL_law 8 = .ok (.iconst 4, 1) := by decide +kernel
theorem dL_law_9 : decode cL_law 9 = .ok (.aload_n 0, 1) := by decide +kernel
theorem dL_law_10 : decode cL_law 10 = .ok (.iconst 0, 1) := by decide +kernel
theorem dL_law_11 : decode cL_law 11 = .ok (.invokestatic 12, 3) := by decide +kernel
theorem dL_law_14 : decode cL_law 14 = .ok (.iconst 3, 1) := by decide +kernel
theorem dL_law_15 : decode cL_law 15 = .ok (.invokestatic 18, 3) := by decide +kernel
theorem dL_law_18 : decode cL_law 18 = .ok (.iadd, 1) := by decide +kernel
theorem dL_law_19 : decode cL_law 19 = .ok (.istore_n 2, 1) := by decide +kernel
theorem dL_law_20 : decode cL_law 20 = .ok (.aload_n 1, 1) := by decide +kernel
theorem dL_law_21 : decode cL_law 21 = .ok (.iload_n 2, 1) := by decide +kernel
theorem dL_law_22 : decode cL_law 22 = .ok (.invokevirtual 22, 3) := by decide +kernel
theorem dL_law_25 : decode cL_law 25 = .ok (.pop, 1) := by decide +kernel
theorem dL_law_26 : decode cL_law 26 = .ok (.iconst 3, 1) := by decide +kernel
theorem dL_law_27 : decode cL_law 27 = .ok (.newarray .int, 2) := by decide +kernel
theorem dL_law_29 : decode cL_law 29 = .ok (.astore_n 3, 1) := by decide +kernel
theorem dL_law_30 : decode cL_law 30 = .ok (.iconst 0, 1) := by decide +kernel
theorem dL_law_31 : decode cL_law 31 = .ok (.istore 4, 2) := by decide +kernel
theorem dL_law_33 : decode cL_law 33 = .ok (.iload 4, 2) := by decide +kernel
theorem dL_law_35 : decode cL_law 35 = .ok (.iconst 3, 1) := by decide +kernel
theorem dL_law_36 : decode cL_law 36 = .ok (.if_icmp .ge 40, 3) := by decide +kernel
theorem dL_law_39 : decode cL_law 39 = .ok (.aload_n 3, 1) := by decide +kernel
theorem dL_law_40 : decode cL_law 40 = .ok (.iload 4, 2) := by decide +kernel
theorem dL_law_42 : decode cL_law 42 = .ok (.iconst 1, 1) := by decide +kernel
theorem dL_law_43 : decode cL_law 43 = .ok (.aload_n 0, 1) := by decide +kernel
theorem dL_law_44 : decode cL_law 44 = .ok (.iload 4, 2) := by decide +kernel
theorem dL_law_46 : decode cL_law 46 = .ok (.iconst 1, 1) := by decide +kernel
theorem dL_law_47 : decode cL_law 47 = .ok (.iadd, 1) := by decide +kernel
theorem dL_law_48 : decode cL_law 48 = .ok (.invokestatic 12, 3) := by decide +kernel
theorem dL_law_51 : decode cL_law 51 = .ok (.bipush 31, 2) := by decide +kernel
theorem dL_law_53 : decode cL_law 53 = .ok (.invokestatic 18, 3) := by decide +kernel
theorem dL_law_56 : decode cL_law 56 = .ok (.iadd, 1) := by decide +kernel
theorem dL_law_57 : decode cL_law 57 = .ok (.iastore, 1) := by decide +kernel
theorem dL_law_58 : decode cL_law 58 = .ok (.aload_n 1, 1) := by decide +kernel
theorem dL_law_59 : decode cL_law 59 = .ok (.iconst 1, 1) := by decide +kernel
theorem dL_law_60 : decode cL_law 60 = .ok (.aload_n 3, 1) := by decide +kernel
theorem dL_law_61 : decode cL_law 61 = .ok (.iload 4, 2) := by decide +kernel
theorem dL_law_63 : decode cL_law 63 = .ok (.iaload, 1) := by decide +kernel
theorem dL_law_64 : decode cL_law 64 = .ok (.iconst 0, 1) := by decide +kernel
theorem dL_law_65 : decode cL_law 65 = .ok (.iconst 0, 1) := by decide +kernel
theorem dL_law_66 : decode cL_law 66 = .ok (.invokevirtual 26, 3) := by decide +kernel
theorem dL_law_69 : decode cL_law 69 = .ok (.pop, 1) := by decide +kernel
theorem dL_law_70 : decode cL_law 70 = .ok (.iinc 4 1, 3) := by decide +kernel
theorem dL_law_73 : decode cL_law 73 = .ok (.goto (-40), 3) := by decide +kernel
theorem dL_law_76 : decode cL_law 76 = .ok (.iconst 0, 1) := by decide +kernel
theorem dL_law_77 : decode cL_law 77 = .ok (.istore 4, 2) := by decide +kernel
theorem dL_law_79 : decode cL_law 79 = .ok (.iload 4, 2) := by decide +kernel
theorem dL_law_81 : decode cL_law 81 = .ok (.iconst 5, 1) := by decide +kernel
theorem dL_law_82 : decode cL_law 82 = .ok (.if_icmp .ge 21, 3) := by decide +kernel
theorem dL_law_85 : decode cL_law 85 = .ok (.aload_n 1, 1) := by decide +kernel
theorem dL_law_86 : decode cL_law 86 = .ok (.aload_n 0, 1) := by decide +kernel
theorem dL_law_87 : decode cL_law 87 = .ok (.iload 4, 2) := by decide +kernel
theorem dL_law_89 : decode cL_law 89 = .ok (.iconst 3, 1) := by decide +kernel
theorem dL_law_90 : decode cL_law 90 = .ok (.iadd, 1) := by decide +kernel
theorem dL_law_91 : decode cL_law 91 = .ok (.invokestatic 12, 3) := by decide +kernel
theorem dL_law_94 : decode cL_law 94 = .ok (.invokestatic 30, 3) := by decide +kernel
theorem dL_law_97 : decode cL_law 97 = .ok (.iinc 4 1, 3) := by decide +kernel
theorem dL_law_100 : decode cL_law 100 = .ok (.goto (-21), 3) := by decide +kernel
theorem dL_law_103 : decode cL_law 103 = .ok (.iconst 0, 1) := by decide +kernel
theorem dL_law_104 : decode cL_law 104 = .ok (.istore 4, 2) := by decide +kernel
theorem dL_law_106 : decode cL_law 106 = .ok (.iload 4, 2) := by decide +kernel
theorem dL_law_108 : decode cL_law 108 = .ok (.bipush 26, 2) := by decide +kernel
theorem dL_law_110 : decode cL_law 110 = .ok (.if_icmp .ge 217, 3) := by decide +kernel
theorem dL_law_113 : decode cL_law 113 = .ok (.aload_n 0, 1) := by decide +kernel
theorem dL_law_114 : decode cL_law 114 = .ok (.iload 4, 2) := by decide +kernel
theorem dL_law_116 : decode cL_law 116 = .ok (.bipush 16, 2) := by decide +kernel
theorem dL_law_118 : decode cL_law 118 = .ok (.irem, 1) := by decide +kernel
theorem dL_law_119 : decode cL_law 119 = .ok (.invokestatic 12, 3) := by decide +kernel
theorem dL_law_122 : decode cL_law 122 = .ok (.bipush 31, 2) := by decide +kernel
theorem dL_law_124 : decode cL_law 124 = .ok (.iload 4, 2) := by decide +kernel
theorem dL_law_126 : decode cL_law 126 = .ok (.imul, 1) := by decide +kernel
theorem dL_law_127 : decode cL_law 127 = .ok (.iadd, 1) := by decide +kernel
theorem dL_law_128 : decode cL_law 128 = .ok (.istore 5, 2) := by decide +kernel
theorem dL_law_130 : decode cL_law 130 = .ok (.aload_n 0, 1) := by decide +kernel
theorem dL_law_131 : decode cL_law 131 = .ok (.bipush 7, 2) := by decide +kernel
theorem dL_law_133 : decode cL_law 133 = .ok (.iload 4, 2) := by decide +kernel
theorem dL_law_135 : decode cL_law 135 = .ok (.imul, 1) := by decide +kernel
theorem dL_law_136 : decode cL_law 136 = .ok (.iconst 3, 1) := by decide +kernel
theorem dL_law_137 : decode cL_law 137 = .ok (.iadd, 1) := by decide +kernel
theorem dL_law_138 : decode cL_law 138 = .ok (.bipush 16, 2) := by decide +kernel
theorem dL_law_140 : decode cL_law 140 = .ok (.irem, 1) := by decide +kernel
theorem dL_law_141 : decode cL_law 141 = .ok (.invokestatic 12, 3) := by decide +kernel
theorem dL_law_144 : decode cL_law 144 = .ok (.iconst 5, 1) := by decide +kernel
theorem dL_law_145 : decode cL_law 145 = .ok (.iload 4, 2) := by decide +kernel
theorem dL_law_147 : decode cL_law 147 = .ok (.imul, 1) := by decide +kernel
theorem dL_law_148 : decode cL_law 148 = .ok (.iadd, 1) := by decide +kernel
theorem dL_law_149 : decode cL_law 149 = .ok (.istore 6, 2) := by decide +kernel
theorem dL_law_151 : decode cL_law 151 = .ok (.aload_n 1, 1) := by decide +kernel
theorem dL_law_152 : decode cL_law 152 = .ok (.iconst 4, 1) := by decide +kernel
theorem dL_law_153 : decode cL_law 153 = .ok (.invokevirtual 34, 3) := by decide +kernel
theorem dL_law_156 : decode cL_law 156 = .ok (.istore 7, 2) := by decide +kernel
theorem dL_law_158 : decode cL_law 158 = .ok (.iload 6, 2) := by decide +kernel
theorem dL_law_160 : decode cL_law 160 = .ok (.iload 7, 2) := by decide +kernel
theorem dL_law_162 : decode cL_law 162 = .ok (.invokestatic 18, 3) := by decide +kernel
theorem dL_law_165 : decode cL_law 165 = .ok (.istore 8, 2) := by decide +kernel
theorem dL_law_167 : decode cL_law 167 = .ok (.iload 5, 2) := by decide +kernel
theorem dL_law_169 : decode cL_law 169 = .ok (.bipush 9, 2) := by decide +kernel
theorem dL_law_171 : decode cL_law 171 = .ok (.invokestatic 18, 3) := by decide +kernel
theorem dL_law_174 : decode cL_law 174 = .ok (.tableswitch 124 0 3 #[30, 57, 91, 105], 30) := by decide +kernel
theorem dL_law_204 : decode cL_law 204 = .ok (.aload_n 1, 1) := by decide +kernel
theorem dL_law_205 : decode cL_law 205 = .ok (.iconst 1, 1) := by decide +kernel
theorem dL_law_206 : decode cL_law 206 = .ok (.iload 5, 2) := by decide +kernel
theorem dL_law_208 : decode cL_law 208 = .ok (.bipush 9, 2) := by decide +kernel
theorem dL_law_210 : decode cL_law 210 = .ok (.idiv, 1) := by decide +kernel
theorem dL_law_211 : decode cL_law 211 = .ok (.bipush 12, 2) := by decide +kernel
theorem dL_law_213 : decode cL_law 213 = .ok (.invokestatic 18, 3) := by decide +kernel
theorem dL_law_216 : decode cL_law 216 = .ok (.iadd, 1) := by decide +kernel
theorem dL_law_217 : decode cL_law 217 = .ok (.iload 6, 2) := by decide +kernel
theorem dL_law_219 : decode cL_law 219 = .ok (.bipush 11, 2) := by decide +kernel
theorem dL_law_221 : decode cL_law 221 = .ok (.invokestatic 18, 3) := by decide +kernel
theorem dL_law_224 : decode cL_law 224 = .ok (.invokevirtual 37, 3) := by decide +kernel
theorem dL_law_227 : decode cL_law 227 = .ok (.pop, 1) := by decide +kernel
theorem dL_law_228 : decode cL_law 228 = .ok (.goto 83, 3) := by decide +kernel
theorem dL_law_231 : decode cL_law 231 = .ok (.aload_n 1, 1) := by decide +kernel
theorem dL_law_232 : decode cL_law 232 = .ok (.iload 6, 2) := by decide +kernel
theorem dL_law_234 : decode cL_law 234 = .ok (.iload_n 2, 1) := by decide +kernel
theorem dL_law_235 : decode cL_law 235 = .ok (.invokestatic 18, 3) := by decide +kernel
theorem dL_law_238 : decode cL_law 238 = .ok (.iload 6, 2) := by decide +kernel
theorem dL_law_240 : decode cL_law 240 = .ok (.bipush 7, 2) := by decide +kernel
theorem dL_law_242 : decode cL_law 242 = .ok (.idiv, 1) := by decide +kernel
theorem dL_law_243 : decode cL_law 243 = .ok (.iconst 5, 1) := by decide +kernel
theorem dL_law_244 : decode cL_law 244 = .ok (.invokestatic 18, 3) := by decide +kernel
theorem dL_law_247 : decode cL_law 247 = .ok (.iload 5, 2) := by decide +kernel
theorem dL_law_249 : decode cL_law 249 = .ok (.bipush 9, 2) := by decide +kernel
theorem dL_law_251 : decode cL_law 251 = .ok (.idiv, 1) := by decide +kernel
theorem dL_law_252 : decode cL_law 252 = .ok (.iconst 3, 1) := by decide +kernel
theorem dL_law_253 : decode cL_law 253 = .ok (.invokestatic 18, 3) := by decide +kernel
theorem dL_law_256 : decode cL_law 256 = .ok (.iconst 1, 1) := by decide +kernel
theorem dL_law_257 : decode cL_law 257 = .ok (.isub, 1) := by decide +kernel
theorem dL_law_258 : decode cL_law 258 = .ok (.invokevirtual 40, 3) := by decide +kernel
theorem dL_law_261 : decode cL_law 261 = .ok (.pop, 1) := by decide +kernel
theorem dL_law_262 : decode cL_law 262 = .ok (.goto 49, 3) := by decide +kernel
theorem dL_law_265 : decode cL_law 265 = .ok (.aload_n 1, 1) := by decide +kernel
theorem dL_law_266 : decode cL_law 266 = .ok (.iload 6, 2) := by decide +kernel
theorem dL_law_268 : decode cL_law 268 = .ok (.iload_n 2, 1) := by decide +kernel
theorem dL_law_269 : decode cL_law 269 = .ok (.invokestatic 18, 3) := by decide +kernel
theorem dL_law_272 : decode cL_law 272 = .ok (.invokevirtual 44, 3) := by decide +kernel
theorem dL_law_275 : decode cL_law 275 = .ok (.pop, 1) := by decide +kernel
theorem dL_law_276 : decode cL_law 276 = .ok (.goto 35, 3) := by decide +kernel
theorem dL_law_279 : decode cL_law 279 = .ok (.iload 7, 2) := by decide +kernel
theorem dL_law_281 : decode cL_law 281 = .ok (.bipush 8, 2) := by decide +kernel
theorem dL_law_283 : decode cL_law 283 = .ok (.if_icmp .ge 28, 3) := by decide +kernel
theorem dL_law_286 : decode cL_law 286 = .ok (.aload_n 1, 1) := by decide +kernel
theorem dL_law_287 : decode cL_law 287 = .ok (.iload 5, 2) := by decide +kernel
theorem dL_law_289 : decode cL_law 289 = .ok (.bipush 9, 2) := by decide +kernel
theorem dL_law_291 : decode cL_law 291 = .ok (.idiv, 1) := by decide +kernel
theorem dL_law_292 : decode cL_law 292 = .ok (.invokestatic 30, 3) := by decide +kernel
theorem dL_law_295 : decode cL_law 295 = .ok (.goto 16, 3) := by decide +kernel
theorem dL_law_298 : decode cL_law 298 = .ok (.aload_n 1, 1) := by decide +kernel
theorem dL_law_299 : decode cL_law 299 = .ok (.iload 8, 2) := by decide +kernel
theorem dL_law_301 : decode cL_law 301 = .ok (.iload_n 2, 1) := by decide +kernel
theorem dL_law_302 : decode cL_law 302 = .ok (.aload_n 3, 1) := by decide +kernel
theorem dL_law_303 : decode cL_law 303 = .ok (.invokestatic 47, 3) := by decide +kernel
theorem dL_law_306 : decode cL_law 306 = .ok (.ifCond .ne 5, 3) := by decide +kernel
theorem dL_law_309 : decode cL_law 309 = .ok (.iconst 0, 1) := by decide +kernel
theorem dL_law_310 : decode cL_law 310 = .ok (.ireturn, 1) := by decide +kernel
theorem dL_law_311 : decode cL_law 311 = .ok (.aload_n 1, 1) := by decide +kernel
theorem dL_law_312 : decode cL_law 312 = .ok (.iload_n 2, 1) := by decide +kernel
theorem dL_law_313 : decode cL_law 313 = .ok (.invokestatic 51, 3) := by decide +kernel
theorem dL_law_316 : decode cL_law 316 = .ok (.ifCond .ne 5, 3) := by decide +kernel
theorem dL_law_319 : decode cL_law 319 = .ok (.iconst 0, 1) := by decide +kernel
theorem dL_law_320 : decode cL_law 320 = .ok (.ireturn, 1) := by decide +kernel
theorem dL_law_321 : decode cL_law 321 = .ok (.iinc 4 1, 3) := by decide +kernel
theorem dL_law_324 : decode cL_law 324 = .ok (.goto (-218), 3) := by decide +kernel
theorem dL_law_327 : decode cL_law 327 = .ok (.aload_n 1, 1) := by decide +kernel
theorem dL_law_328 : decode cL_law 328 = .ok (.invokevirtual 55, 3) := by decide +kernel
theorem dL_law_331 : decode cL_law 331 = .ok (.lstore 4, 2) := by decide +kernel
theorem dL_law_333 : decode cL_law 333 = .ok (.aload_n 1, 1) := by decide +kernel
theorem dL_law_334 : decode cL_law 334 = .ok (.bipush 7, 2) := by decide +kernel
theorem dL_law_336 : decode cL_law 336 = .ok (.invokevirtual 34, 3) := by decide +kernel
theorem dL_law_339 : decode cL_law 339 = .ok (.aload_n 1, 1) := by decide +kernel
theorem dL_law_340 : decode cL_law 340 = .ok (.bipush 8, 2) := by decide +kernel
theorem dL_law_342 : decode cL_law 342 = .ok (.invokevirtual 34, 3) := by decide +kernel
theorem dL_law_345 : decode cL_law 345 = .ok (.if_icmp .lt 24, 3) := by decide +kernel
theorem dL_law_348 : decode cL_law 348 = .ok (.aload_n 1, 1) := by decide +kernel
theorem dL_law_349 : decode cL_law 349 = .ok (.invokevirtual 55, 3) := by decide +kernel
theorem dL_law_352 : decode cL_law 352 = .ok (.lload 4, 2) := by decide +kernel
theorem dL_law_354 : decode cL_law 354 = .ok (.lcmp, 1) := by decide +kernel
theorem dL_law_355 : decode cL_law 355 = .ok (.ifCond .ne 14, 3) := by decide +kernel
theorem dL_law_358 : decode cL_law 358 = .ok (.aload_n 1, 1) := by decide +kernel
theorem dL_law_359 : decode cL_law 359 = .ok (.invokevirtual 59, 3) := by decide +kernel
theorem dL_law_362 : decode cL_law 362 = .ok (.ifCond .eq 7, 3) := by decide +kernel
theorem dL_law_365 : decode cL_law 365 = .ok (.iconst 1, 1) := by decide +kernel
theorem dL_law_366 : decode cL_law 366 = .ok (.goto 4, 3) := by decide +kernel
theorem dL_law_369 : decode cL_law 369 = .ok (.iconst 0, 1) := by decide +kernel
theorem dL_law_370 : decode cL_law 370 = .ok (.ireturn, 1) := by decide +kernel
theorem dL_list_0 : decode cL_list 0 = .ok (.iconst 1, 1) := by decide +kernel
theorem dL_list_1 : decode cL_list 1 = .ok (.iload_n 1, 1) := by decide +kernel
theorem dL_list_2 : decode cL_list 2 = .ok (.iconst 3, 1) := by decide +kernel
theorem dL_list_3 : decode cL_list 3 = .ok (.invokestatic 18, 3) := by decide +kernel
theorem dL_list_6 : decode cL_list 6 = .ok (.iadd, 1) := by decide +kernel
theorem dL_list_7 : decode cL_list 7 = .ok (.istore_n 2, 1) := by decide +kernel
theorem dL_list_8 : decode cL_list 8 = .ok (.iload_n 1, 1) := by decide +kernel
theorem dL_list_9 : decode cL_list 9 = .ok (.iconst 3, 1) := by decide +kernel
theorem dL_list_10 : decode cL_list 10 = .ok (.idiv, 1) := by decide +kernel
theorem dL_list_11 : decode cL_list 11 = .ok (.iconst 3, 1) := by decide +kernel
theorem dL_list_12 : decode cL_list 12 = .ok (.invokestatic 18, 3) := by decide +kernel
theorem dL_list_15 : decode cL_list 15 = .ok (.istore_n 3, 1) := by decide +kernel
theorem dL_list_16 : decode cL_list 16 = .ok (.iload_n 3, 1) := by decide +kernel
theorem dL_list_17 : decode cL_list 17 = .ok (.ifCond .le 27, 3) := by decide +kernel
theorem dL_list_20 : decode cL_list 20 = .ok (.bipush 10, 2) := by decide +kernel
theorem dL_list_22 : decode cL_list 22 = .ok (.iload_n 2, 1) := by decide +kernel
theorem dL_list_23 : decode cL_list 23 = .ok (.imul, 1) := by decide +kernel
theorem dL_list_24 : decode cL_list 24 = .ok (.iconst 1, 1) := by decide +kernel
theorem dL_list_25 : decode cL_list 25 = .ok (.iadd, 1) := by decide +kernel
theorem dL_list_26 : decode cL_list 26 = .ok (.iload_n 1, 1) := by decide +kernel
theorem dL_list_27 : decode cL_list 27 = .ok (.bipush 9, 2) := by decide +kernel
theorem dL_list_29 : decode cL_list 29 = .ok (.idiv, 1) := by decide +kernel
theorem dL_list_30 : decode cL_list 30 = .ok (.iload_n 3, 1) := by decide +kernel
theorem dL_list_31 : decode cL_list 31 = .ok (.iadd, 1) := by decide +kernel
theorem dL_list_32 : decode cL_list 32 = .ok (.iconst 3, 1) := by decide +kernel
theorem dL_list_33 : decode cL_list 33 = .ok (.invokestatic 18, 3) := by decide +kernel
theorem dL_list_36 : decode cL_list 36 = .ok (.iadd, 1) := by decide +kernel
theorem dL_list_37 : decode cL_list 37 = .ok (.istore_n 2, 1) := by decide +kernel
theorem dL_list_38 : decode cL_list 38 = .ok (.iinc 3 (-1), 3) := by decide +kernel
theorem dL_list_41 : decode cL_list 41 = .ok (.goto (-25), 3) := by decide +kernel
theorem dL_list_44 : decode cL_list 44 = .ok (.aload_n 0, 1) := by decide +kernel
theorem dL_list_45 : decode cL_list 45 = .ok (.iload_n 2, 1) := by decide +kernel
theorem dL_list_46 : decode cL_list 46 = .ok (.invokevirtual 63, 3) := by decide +kernel
theorem dL_list_49 : decode cL_list 49 = .ok (.pop, 1) := by decide +kernel
theorem dL_list_50 : decode cL_list 50 = .ok (.goto 10, 3) := by decide +kernel
theorem dL_list_53 : decode cL_list 53 = .ok (.astore_n 3, 1) := by decide +kernel
theorem dL_list_54 : decode cL_list 54 = .ok (.aload_n 0, 1) := by decide +kernel
theorem dL_list_55 : decode cL_list 55 = .ok (.iconst 4, 1) := by decide +kernel
theorem dL_list_56 : decode cL_list 56 = .ok (.invokevirtual 34, 3) := by decide +kernel
theorem dL_list_59 : decode cL_list 59 = .ok (.pop, 1) := by decide +kernel
theorem dL_list_60 : decode cL_list 60 = .ok (.return_, 1) := by decide +kernel
theorem dL_isShown_0 : decode cL_isShown 0 = .ok (.aload_n 0, 1) := by decide +kernel
theorem dL_isShown_1 : decode cL_isShown 1 = .ok (.iload_n 1, 1) := by decide +kernel
theorem dL_isShown_2 : decode cL_isShown 2 = .ok (.bipush 6, 2) := by decide +kernel
theorem dL_isShown_4 : decode cL_isShown 4 = .ok (.invokevirtual 67, 3) := by decide +kernel
theorem dL_isShown_7 : decode cL_isShown 7 = .ok (.istore 4, 2) := by decide +kernel
theorem dL_isShown_9 : decode cL_isShown 9 = .ok (.aload_n 0, 1) := by decide +kernel
theorem dL_isShown_10 : decode cL_isShown 10 = .ok (.iload_n 1, 1) := by decide +kernel
theorem dL_isShown_11 : decode cL_isShown 11 = .ok (.bipush 7, 2) := by decide +kernel
theorem dL_isShown_13 : decode cL_isShown 13 = .ok (.invokevirtual 67, 3) := by decide +kernel
theorem dL_isShown_16 : decode cL_isShown 16 = .ok (.istore 5, 2) := by decide +kernel
theorem dL_isShown_18 : decode cL_isShown 18 = .ok (.aload_n 0, 1) := by decide +kernel
theorem dL_isShown_19 : decode cL_isShown 19 = .ok (.bipush 7, 2) := by decide +kernel
theorem dL_isShown_21 : decode cL_isShown 21 = .ok (.invokevirtual 34, 3) := by decide +kernel
theorem dL_isShown_24 : decode cL_isShown 24 = .ok (.istore 6, 2) := by decide +kernel
theorem dL_isShown_26 : decode cL_isShown 26 = .ok (.aload_n 0, 1) := by decide +kernel
theorem dL_isShown_27 : decode cL_isShown 27 = .ok (.iconst 4, 1) := by decide +kernel
theorem dL_isShown_28 : decode cL_isShown 28 = .ok (.invokevirtual 34, 3) := by decide +kernel
theorem dL_isShown_31 : decode cL_isShown 31 = .ok (.istore 7, 2) := by decide +kernel
theorem dL_isShown_33 : decode cL_isShown 33 = .ok (.iconst 0, 1) := by decide +kernel
theorem dL_isShown_34 : decode cL_isShown 34 = .ok (.iload 4, 2) := by decide +kernel
theorem dL_isShown_36 : decode cL_isShown 36 = .ok (.invokestatic 70, 3) := by decide +kernel
theorem dL_isShown_39 : decode cL_isShown 39 = .ok (.newarray .int, 2) := by decide +kernel
theorem dL_isShown_41 : decode cL_isShown 41 = .ok (.astore 8, 2) := by decide +kernel
theorem dL_isShown_43 : decode cL_isShown 43 = .ok (.iload_n 2, 1) := by decide +kernel
theorem dL_isShown_44 : decode cL_isShown 44 = .ok (.newarray .int, 2) := by decide +kernel
theorem dL_isShown_46 : decode cL_isShown 46 = .ok (.astore 9, 2) := by decide +kernel
theorem dL_isShown_48 : decode cL_isShown 48 = .ok (.iload 7, 2) := by decide +kernel
theorem dL_isShown_50 : decode cL_isShown 50 = .ok (.newarray .boolean, 2) := by decide +kernel
theorem dL_isShown_52 : decode cL_isShown 52 = .ok (.astore 10, 2) := by decide +kernel
theorem dL_isShown_54 : decode cL_isShown 54 = .ok (.iconst 0, 1) := by decide +kernel
theorem dL_isShown_55 : decode cL_isShown 55 = .ok (.istore 11, 2) := by decide +kernel
theorem dL_isShown_57 : decode cL_isShown 57 = .ok (.iload 11, 2) := by decide +kernel
theorem dL_isShown_59 : decode cL_isShown 59 = .ok (.aload 8, 2) := by decide +kernel
theorem dL_isShown_61 : decode cL_isShown 61 = .ok (.arraylength, 1) := by decide +kernel
theorem dL_isShown_62 : decode cL_isShown 62 = .ok (.if_icmp .ge 21, 3) := by decide +kernel
theorem dL_isShown_65 : decode cL_isShown 65 = .ok (.aload 8, 2) := by decide +kernel
theorem dL_isShown_67 : decode cL_isShown 67 = .ok (.iload 11, 2) := by decide +kernel
theorem dL_isShown_69 : decode cL_isShown 69 = .ok (.aload_n 0, 1) := by decide +kernel
theorem dL_isShown_70 : decode cL_isShown 70 = .ok (.iload_n 1, 1) := by decide +kernel
theorem dL_isShown_71 : decode cL_isShown 71 = .ok (.iload 11, 2) := by decide +kernel
theorem dL_isShown_73 : decode cL_isShown 73 = .ok (.invokevirtual 75, 3) := by decide +kernel
theorem dL_isShown_76 : decode cL_isShown 76 = .ok (.iastore, 1) := by decide +kernel
theorem dL_isShown_77 : decode cL_isShown 77 = .ok (.iinc 11 1, 3) := by decide +kernel
theorem dL_isShown_80 : decode cL_isShown 80 = .ok (.goto (-23), 3) := by decide +kernel
theorem dL_isShown_83 : decode cL_isShown 83 = .ok (.iconst 0, 1) := by decide +kernel
theorem dL_isShown_84 : decode cL_isShown 84 = .ok (.istore 11, 2) := by decide +kernel
theorem dL_isShown_86 : decode cL_isShown 86 = .ok (.iload 11, 2) := by decide +kernel
theorem dL_isShown_88 : decode cL_isShown 88 = .ok (.iload_n 2, 1) := by decide +kernel
theorem dL_isShown_89 : decode cL_isShown 89 = .ok (.if_icmp .ge 21, 3) := by decide +kernel
theorem dL_isShown_92 : decode cL_isShown 92 = .ok (.aload 9, 2) := by decide +kernel
theorem dL_isShown_94 : decode cL_isShown 94 = .ok (.iload 11, 2) := by decide +kernel
theorem dL_isShown_96 : decode cL_isShown 96 = .ok (.aload_n 0, 1) := by decide +kernel
theorem dL_isShown_97 : decode cL_isShown 97 = .ok (.iload 11, 2) := by decide +kernel
theorem dL_isShown_99 : decode cL_isShown 99 = .ok (.iconst 0, 1) := by decide +kernel
theorem dL_isShown_100 : decode cL_isShown 100 = .ok (.invokevirtual 78, 3) := by decide +kernel
theorem dL_isShown_103 : decode cL_isShown 103 = .ok (.iastore, 1) := by decide +kernel
theorem dL_isShown_104 : decode cL_isShown 104 = .ok (.iinc 11 1, 3) := by decide +kernel
theorem dL_isShown_107 : decode cL_isShown 107 = .ok (.goto (-21), 3) := by decide +kernel
theorem dL_isShown_110 : decode cL_isShown 110 = .ok (.iconst 0, 1) := by decide +kernel
theorem dL_isShown_111 : decode cL_isShown 111 = .ok (.istore 11, 2) := by decide +kernel
theorem dL_isShown_113 : decode cL_isShown 113 = .ok (.iload 11, 2) := by decide +kernel
theorem dL_isShown_115 : decode cL_isShown 115 = .ok (.iload 7, 2) := by decide +kernel
theorem dL_isShown_117 : decode cL_isShown 117 = .ok (.if_icmp .ge 36, 3) := by decide +kernel
theorem dL_isShown_120 : decode cL_isShown 120 = .ok (.aload 10, 2) := by decide +kernel
theorem dL_isShown_122 : decode cL_isShown 122 = .ok (.iload 11, 2) := by decide +kernel
theorem dL_isShown_124 : decode cL_isShown 124 = .ok (.iload 11, 2) := by decide +kernel
theorem dL_isShown_126 : decode cL_isShown 126 = .ok (.iload_n 1, 1) := by decide +kernel
theorem dL_isShown_127 : decode cL_isShown 127 = .ok (.if_icmp .eq 14, 3) := by decide +kernel
theorem dL_isShown_130 : decode cL_isShown 130 = .ok (.aload_n 0, 1) := by decide +kernel
theorem dL_isShown_131 : decode cL_isShown 131 = .ok (.iload 11, 2) := by decide +kernel
theorem dL_isShown_133 : decode cL_isShown 133 = .ok (.iconst 5, 1) := by decide +kernel
theorem dL_isShown_134 : decode cL_isShown 134 = .ok (.invokevirtual 67, 3) := by decide +kernel
theorem dL_isShown_137 : decode cL_isShown 137 = .ok (.iconst 1, 1) := by decide +kernel
theorem dL_isShown_138 : decode cL_isShown 138 = .ok (.if_icmp .ne 7, 3) := by decide +kernel
theorem dL_isShown_141 : decode cL_isShown 141 = .ok (.iconst 1, 1) := by decide +kernel
theorem dL_isShown_142 : decode cL_isShown 142 = .ok (.goto 4, 3) := by decide +kernel
theorem dL_isShown_145 : decode cL_isShown 145 = .ok (.iconst 0, 1) := by decide +kernel
theorem dL_isShown_146 : decode cL_isShown 146 = .ok (.bastore, 1) := by decide +kernel
theorem dL_isShown_147 : decode cL_isShown 147 = .ok (.iinc 11 1, 3) := by decide +kernel
theorem dL_isShown_150 : decode cL_isShown 150 = .ok (.goto (-37), 3) := by decide +kernel
theorem dL_isShown_153 : decode cL_isShown 153 = .ok (.aload_n 0, 1) := by decide +kernel
theorem dL_isShown_154 : decode cL_isShown 154 = .ok (.iload_n 1, 1) := by decide +kernel
theorem dL_isShown_155 : decode cL_isShown 155 = .ok (.invokevirtual 81, 3) := by decide +kernel
theorem dL_isShown_158 : decode cL_isShown 158 = .ok (.iload 4, 2) := by decide +kernel
theorem dL_isShown_160 : decode cL_isShown 160 = .ok (.if_icmp .eq 5, 3) := by decide +kernel
theorem dL_isShown_163 : decode cL_isShown 163 = .ok (.iconst 0, 1) := by decide +kernel
theorem dL_isShown_164 : decode cL_isShown 164 = .ok (.ireturn, 1) := by decide +kernel
theorem dL_isShown_165 : decode cL_isShown 165 = .ok (.iload 4, 2) := by decide +kernel
theorem dL_isShown_167 : decode cL_isShown 167 = .ok (.ifCond .ge 26, 3) := by decide +kernel
theorem dL_isShown_170 : decode cL_isShown 170 = .ok (.aload_n 0, 1) := by decide +kernel
theorem dL_isShown_171 : decode cL_isShown 171 = .ok (.bipush 7, 2) := by decide +kernel
theorem dL_isShown_173 : decode cL_isShown 173 = .ok (.invokevirtual 34, 3) := by decide +kernel
theorem dL_isShown_176 : decode cL_isShown 176 = .ok (.iload 6, 2) := by decide +kernel
theorem dL_isShown_178 : decode cL_isShown 178 = .ok (.if_icmp .ne 13, 3) := by decide +kernel
theorem dL_isShown_181 : decode cL_isShown 181 = .ok (.iload 5, 2) := by decide +kernel
theorem dL_isShown_183 : decode cL_isShown 183 = .ok (.iconst (-1), 1) := by decide +kernel
theorem dL_isShown_184 : decode cL_isShown 184 = .ok (.if_icmp .ne 7, 3) := by decide +kernel
theorem dL_isShown_187 : decode cL_isShown 187 = .ok (.iconst 1, 1) := by decide +kernel
theorem dL_isShown_188 : decode cL_isShown 188 = .ok (.goto 4, 3) := by decide +kernel
theorem dL_isShown_191 : decode cL_isShown 191 = .ok (.iconst 0, 1) := by decide +kernel
theorem dL_isShown_192 : decode cL_isShown 192 = .ok (.ireturn, 1) := by decide +kernel
theorem dL_isShown_193 : decode cL_isShown 193 = .ok (.aload_n 0, 1) := by decide +kernel
theorem dL_isShown_194 : decode cL_isShown 194 = .ok (.bipush 7, 2) := by decide +kernel
theorem dL_isShown_196 : decode cL_isShown 196 = .ok (.invokevirtual 34, 3) := by decide +kernel
theorem dL_isShown_199 : decode cL_isShown 199 = .ok (.iload 6, 2) := by decide +kernel
theorem dL_isShown_201 : decode cL_isShown 201 = .ok (.iload 5, 2) := by decide +kernel
theorem dL_isShown_203 : decode cL_isShown 203 = .ok (.iadd, 1) := by decide +kernel
theorem dL_isShown_204 : decode cL_isShown 204 = .ok (.if_icmp .ne 32, 3) := by decide +kernel
theorem dL_isShown_207 : decode cL_isShown 207 = .ok (.aload_n 0, 1) := by decide +kernel
theorem dL_isShown_208 : decode cL_isShown 208 = .ok (.iload_n 1, 1) := by decide +kernel
theorem dL_isShown_209 : decode cL_isShown 209 = .ok (.iconst 3, 1) := by decide +kernel
theorem dL_isShown_210 : decode cL_isShown 210 = .ok (.invokevirtual 67, 3) := by decide +kernel
theorem dL_isShown_213 : decode cL_isShown 213 = .ok (.ifCond .ne 13, 3) := by decide +kernel
theorem dL_isShown_216 : decode cL_isShown 216 = .ok (.aload_n 0, 1) := by decide +kernel
theorem dL_isShown_217 : decode cL_isShown 217 = .ok (.iload_n 1, 1) := by decide +kernel
theorem dL_isShown_218 : decode cL_isShown 218 = .ok (.iconst 5, 1) := by decide +kernel
theorem dL_isShown_219 : decode cL_isShown 219 = .ok (.invokevirtual 67, 3) := by decide +kernel
theorem dL_isShown_222 : decode cL_isShown 222 = .ok (.iconst 1, 1) := by decide +kernel
theorem dL_isShown_223 : decode cL_isShown 223 = .ok (.if_icmp .ne 13, 3) := by decide +kernel
theorem dL_isShown_226 : decode cL_isShown 226 = .ok (.aload_n 0, 1) := by decide +kernel
theorem dL_isShown_227 : decode cL_isShown 227 = .ok (.iload_n 1, 1) := by decide +kernel
theorem dL_isShown_228 : decode cL_isShown 228 = .ok (.bipush 6, 2) := by decide +kernel
theorem dL_isShown_230 : decode cL_isShown 230 = .ok (.invokevirtual 67, 3) := by decide +kernel
theorem dL_isShown_233 : decode cL_isShown 233 = .ok (.ifCond .eq 5, 3) := by decide +kernel
theorem dL_isShown_236 : decode cL_isShown 236 = .ok (.iconst 0, 1) := by decide +kernel
theorem dL_isShown_237 : decode cL_isShown 237 = .ok (.ireturn, 1) := by decide +kernel
theorem dL_isShown_238 : decode cL_isShown 238 = .ok (.iconst 0, 1) := by decide +kernel
theorem dL_isShown_239 : decode cL_isShown 239 = .ok (.istore 11, 2) := by decide +kernel
theorem dL_isShown_241 : decode cL_isShown 241 = .ok (.iconst 0, 1) := by decide +kernel
theorem dL_isShown_242 : decode cL_isShown 242 = .ok (.istore 12, 2) := by decide +kernel
theorem dL_isShown_244 : decode cL_isShown 244 = .ok (.iload 12, 2) := by decide +kernel
theorem dL_isShown_246 : decode cL_isShown 246 = .ok (.iload 4, 2) := by decide +kernel
theorem dL_isShown_248 : decode cL_isShown 248 = .ok (.if_icmp .ge 168, 3) := by decide +kernel
theorem dL_isShown_251 : decode cL_isShown 251 = .ok (.aload 8, 2) := by decide +kernel
theorem dL_isShown_253 : decode cL_isShown 253 = .ok (.iload 12, 2) := by decide +kernel
theorem dL_isShown_255 : decode cL_isShown 255 = .ok (.iaload, 1) := by decide +kernel
theorem dL_isShown_256 : decode cL_isShown 256 = .ok (.ifCond .le 14, 3) := by decide +kernel
theorem dL_isShown_259 : decode cL_isShown 259 = .ok (.aload 8, 2) := by decide +kernel
theorem dL_isShown_261 : decode cL_isShown 261 = .ok (.iload 12, 2) := by decide +kernel
theorem dL_isShown_263 : decode cL_isShown 263 = .ok (.iaload, 1) := by decide +kernel
theorem dL_isShown_264 : decode cL_isShown 264 = .ok (.iload 11, 2) := by decide +kernel
theorem dL_isShown_266 : decode cL_isShown 266 = .ok (.iand, 1) := by decide +kernel
theorem dL_isShown_267 : decode cL_isShown 267 = .ok (.ifCond .eq 5, 3) := by decide +kernel
theorem dL_isShown_270 : decode cL_isShown 270 = .ok (.iconst 0, 1) := by decide +kernel
theorem dL_isShown_271 : decode cL_isShown 271 = .ok (.ireturn, 1) := by decide +kernel
theorem dL_isShown_272 : decode cL_isShown 272 = .ok (.iload 11, 2) := by decide +kernel
theorem dL_isShown_274 : decode cL_isShown 274 = .ok (.aload 8, 2) := by decide +kernel
theorem dL_isShown_276 : decode cL_isShown 276 = .ok (.iload 12, 2) := by decide +kernel
theorem dL_isShown_278 : decode cL_isShown 278 = .ok (.iaload, 1) := by decide +kernel
theorem dL_isShown_279 : decode cL_isShown 279 = .ok (.ior, 1) := by decide +kernel
theorem dL_isShown_280 : decode cL_isShown 280 = .ok (.istore 11, 2) := by decide +kernel
theorem dL_isShown_282 : decode cL_isShown 282 = .ok (.iconst 0, 1) := by decide +kernel
theorem dL_isShown_283 : decode cL_isShown 283 = .ok (.istore 13, 2) := by decide +kernel
theorem dL_isShown_285 : decode cL_isShown 285 = .ok (.iload 13, 2) := by decide +kernel
theorem dL_isShown_287 : decode cL_isShown 287 = .ok (.iload_n 2, 1) := by decide +kernel
theorem dL_isShown_288 : decode cL_isShown 288 = .ok (.if_icmp .ge 45, 3) := by decide +kernel
theorem dL_isShown_291 : decode cL_isShown 291 = .ok (.iload 12, 2) := by decide +kernel
theorem dL_isShown_293 : decode cL_isShown 293 = .ok (.iload 4, 2) := by decide +kernel
theorem dL_isShown_295 : decode cL_isShown 295 = .ok (.iconst 1, 1) := by decide +kernel
theorem dL_isShown_296 : decode cL_isShown 296 = .ok (.isub, 1) := by decide +kernel
theorem dL_isShown_297 : decode cL_isShown 297 = .ok (.if_icmp .ne 36, 3) := by decide +kernel
theorem dL_isShown_300 : decode cL_isShown 300 = .ok (.iload 11, 2) := by decide +kernel
theorem dL_isShown_302 : decode cL_isShown 302 = .ok (.iload 13, 2) := by decide +kernel
theorem dL_isShown_304 : decode cL_isShown 304 = .ok (.ishr, 1) := by decide +kernel
theorem dL_isShown_305 : decode cL_isShown 305 = .ok (.iconst 1, 1) := by decide +kernel
theorem dL_isShown_306 : decode cL_isShown 306 = .ok (.iand, 1) := by decide +kernel
theorem dL_isShown_307 : decode cL_isShown 307 = .ok (.ifCond .ne 20, 3) := by decide +kernel
theorem dL_isShown_310 : decode cL_isShown 310 = .ok (.aload_n 0, 1) := by decide +kernel
theorem dL_isShown_311 : decode cL_isShown 311 = .ok (.iload 13, 2) := by decide +kernel
theorem dL_isShown_313 : decode cL_isShown 313 = .ok (.iconst 0, 1) := by decide +kernel
theorem dL_isShown_314 : decode cL_isShown 314 = .ok (.invokevirtual 78, 3) := by decide +kernel
theorem dL_isShown_317 : decode cL_isShown 317 = .ok (.aload 9, 2) := by decide +kernel
theorem dL_isShown_319 : decode cL_isShown 319 = .ok (.iload 13, 2) := by decide +kernel
theorem dL_isShown_321 : decode cL_isShown 321 = .ok (.iaload, 1) := by decide +kernel
theorem dL_isShown_322 : decode cL_isShown 322 = .ok (.if_icmp .eq 5, 3) := by decide +kernel
theorem dL_isShown_325 : decode cL_isShown 325 = .ok (.iconst 0, 1) := by decide +kernel
theorem dL_isShown_326 : decode cL_isShown 326 = .ok (.ireturn, 1) := by decide +kernel
theorem dL_isShown_327 : decode cL_isShown 327 = .ok (.iinc 13 1, 3) := by decide +kernel
theorem dL_isShown_330 : decode cL_isShown 330 = .ok (.goto (-45), 3) := by decide +kernel
theorem dL_isShown_333 : decode cL_isShown 333 = .ok (.iload 12, 2) := by decide +kernel
theorem dL_isShown_335 : decode cL_isShown 335 = .ok (.iload 4, 2) := by decide +kernel
theorem dL_isShown_337 : decode cL_isShown 337 = .ok (.iconst 1, 1) := by decide +kernel
theorem dL_isShown_338 : decode cL_isShown 338 = .ok (.isub, 1) := by decide +kernel
theorem dL_isShown_339 : decode cL_isShown 339 = .ok (.if_icmp .ne 6, 3) := by decide +kernel
theorem dL_isShown_342 : decode cL_isShown 342 = .ok (.goto 68, 3) := by decide +kernel
theorem dL_isShown_345 : decode cL_isShown 345 = .ok (.iload_n 2, 1) := by decide +kernel
theorem dL_isShown_346 : decode cL_isShown 346 = .ok (.newarray .int, 2) := by decide +kernel
theorem dL_isShown_348 : decode cL_isShown 348 = .ok (.astore 13, 2) := by decide +kernel
theorem dL_isShown_350 : decode cL_isShown 350 = .ok (.iconst 0, 1) := by decide +kernel
theorem dL_isShown_351 : decode cL_isShown 351 = .ok (.istore 14, 2) := by decide +kernel
theorem dL_isShown_353 : decode cL_isShown 353 = .ok (.iload 14, 2) := by decide +kernel
theorem dL_isShown_355 : decode cL_isShown 355 = .ok (.iload_n 2, 1) := by decide +kernel
theorem dL_isShown_356 : decode cL_isShown 356 = .ok (.if_icmp .ge 40, 3) := by decide +kernel
theorem dL_isShown_359 : decode cL_isShown 359 = .ok (.aload 13, 2) := by decide +kernel
theorem dL_isShown_361 : decode cL_isShown 361 = .ok (.iload 14, 2) := by decide +kernel
theorem dL_isShown_363 : decode cL_isShown 363 = .ok (.iload 11, 2) := by decide +kernel
theorem dL_isShown_365 : decode cL_isShown 365 = .ok (.iload 14, 2) := by decide +kernel
theorem dL_isShown_367 : decode cL_isShown 367 = .ok (.ishr, 1) := by decide +kernel
theorem dL_isShown_368 : decode cL_isShown 368 = .ok (.iconst 1, 1) := by decide +kernel
theorem dL_isShown_369 : decode cL_isShown 369 = .ok (.iand, 1) := by decide +kernel
theorem dL_isShown_370 : decode cL_isShown 370 = .ok (.iconst 1, 1) := by decide +kernel
theorem dL_isShown_371 : decode cL_isShown 371 = .ok (.if_icmp .ne 13, 3) := by decide +kernel
theorem dL_isShown_374 : decode cL_isShown 374 = .ok (.aload_n 0, 1) := by decide +kernel
theorem dL_isShown_375 : decode cL_isShown 375 = .ok (.iload 14, 2) := by decide +kernel
theorem dL_isShown_377 : decode cL_isShown 377 = .ok (.iconst 0, 1) := by decide +kernel
theorem dL_isShown_378 : decode cL_isShown 378 = .ok (.invokevirtual 78, 3) := by decide +kernel
theorem dL_isShown_381 : decode cL_isShown 381 = .ok (.goto 8, 3) := by decide +kernel
theorem dL_isShown_384 : decode cL_isShown 384 = .ok (.aload 9, 2) := by decide +kernel
theorem dL_isShown_386 : decode cL_isShown 386 = .ok (.iload 14, 2) := by decide +kernel
theorem dL_isShown_388 : decode cL_isShown 388 = .ok (.iaload, 1) := by decide +kernel
theorem dL_isShown_389 : decode cL_isShown 389 = .ok (.iastore, 1) := by decide +kernel
theorem dL_isShown_390 : decode cL_isShown 390 = .ok (.iinc 14 1, 3) := by decide +kernel
theorem dL_isShown_393 : decode cL_isShown 393 = .ok (.goto (-40), 3) := by decide +kernel
theorem dL_isShown_396 : decode cL_isShown 396 = .ok (.aload_n 0, 1) := by decide +kernel
theorem dL_isShown_397 : decode cL_isShown 397 = .ok (.aload 13, 2) := by decide +kernel
theorem dL_isShown_399 : decode cL_isShown 399 = .ok (.aload 10, 2) := by decide +kernel
theorem dL_isShown_401 : decode cL_isShown 401 = .ok (.aload_n 3, 1) := by decide +kernel
theorem dL_isShown_402 : decode cL_isShown 402 = .ok (.invokestatic 84, 3) := by decide +kernel
theorem dL_isShown_405 : decode cL_isShown 405 = .ok (.ifCond .ne 5, 3) := by decide +kernel
theorem dL_isShown_408 : decode cL_isShown 408 = .ok (.iconst 0, 1) := by decide +kernel
theorem dL_isShown_409 : decode cL_isShown 409 = .ok (.ireturn, 1) := by decide +kernel
theorem dL_isShown_410 : decode cL_isShown 410 = .ok (.iinc 12 1, 3) := by decide +kernel
theorem dL_isShown_413 : decode cL_isShown 413 = .ok (.goto (-169), 3) := by decide +kernel
theorem dL_isShown_416 : decode cL_isShown 416 = .ok (.iconst 1, 1) := by decide +kernel
theorem dL_isShown_417 : decode cL_isShown 417 = .ok (.ireturn, 1) := by decide +kernel
theorem dL_isRight_0 : decode cL_isRight 0 = .ok (.new 9, 3) := by decide +kernel
theorem dL_isRight_3 : decode cL_isRight 3 = .ok (.dup, 1) := by decide +kernel
theorem dL_isRight_4 : decode cL_isRight 4 = .ok (.invokespecial 11, 3) := by decide +kernel
theorem dL_isRight_7 : decode cL_isRight 7 = .ok (.astore 4, 2) := by decide +kernel
theorem dL_isRight_9 : decode cL_isRight 9 = .ok (.aload 4, 2) := by decide +kernel
theorem dL_isRight_11 : decode cL_isRight 11 = .ok (.aload_n 1, 1) := by decide +kernel
theorem dL_isRight_12 : decode cL_isRight 12 = .ok (.arraylength, 1) := by decide +kernel
theorem dL_isRight_13 : decode cL_isRight 13 = .ok (.invokevirtual 22, 3) := by decide +kernel
theorem dL_isRight_16 : decode cL_isRight 16 = .ok (.pop, 1) := by decide +kernel
theorem dL_isRight_17 : decode cL_isRight 17 = .ok (.iconst 0, 1) := by decide +kernel
theorem dL_isRight_18 : decode cL_isRight 18 = .ok (.istore 5, 2) := by decide +kernel
theorem dL_isRight_20 : decode cL_isRight 20 = .ok (.iload 5, 2) := by decide +kernel
theorem dL_isRight_22 : decode cL_isRight 22 = .ok (.aload_n 1, 1) := by decide +kernel
theorem dL_isRight_23 : decode cL_isRight 23 = .ok (.arraylength, 1) := by decide +kernel
theorem dL_isRight_24 : decode cL_isRight 24 = .ok (.if_icmp .ge 43, 3) := by decide +kernel
theorem dL_isRight_27 : decode cL_isRight 27 = .ok (.iconst 0, 1) := by decide +kernel
theorem dL_isRight_28 : decode cL_isRight 28 = .ok (.istore 6, 2) := by decide +kernel
theorem dL_isRight_30 : decode cL_isRight 30 = .ok (.iload 6, 2) := by decide +kernel
theorem dL_isRight_32 : decode cL_isRight 32 = .ok (.iconst 5, 1) := by decide +kernel
theorem dL_isRight_33 : decode cL_isRight 33 = .ok (.if_icmp .ge 28, 3) := by decide +kernel
theorem dL_isRight_36 : decode cL_isRight 36 = .ok (.aload 4, 2) := by decide +kernel
theorem dL_isRight_38 : decode cL_isRight 38 = .ok (.iload 5, 2) := by decide +kernel
theorem dL_isRight_40 : decode cL_isRight 40 = .ok (.iload 6, 2) := by decide +kernel
theorem dL_isRight_42 : decode cL_isRight 42 = .ok (.aload_n 1, 1) := by decide +kernel
theorem dL_isRight_43 : decode cL_isRight 43 = .ok (.iload 5, 2) := by decide +kernel
theorem dL_isRight_45 : decode cL_isRight 45 = .ok (.iaload, 1) := by decide +kernel
theorem dL_isRight_46 : decode cL_isRight 46 = .ok (.iload 6, 2) := by decide +kernel
theorem dL_isRight_48 : decode cL_isRight 48 = .ok (.ishr, 1) := by decide +kernel
theorem dL_isRight_49 : decode cL_isRight 49 = .ok (.iconst 1, 1) := by decide +kernel
theorem dL_isRight_50 : decode cL_isRight 50 = .ok (.iand, 1) := by decide +kernel
theorem dL_isRight_51 : decode cL_isRight 51 = .ok (.invokevirtual 40, 3) := by decide +kernel
theorem dL_isRight_54 : decode cL_isRight 54 = .ok (.pop, 1) := by decide +kernel
theorem dL_isRight_55 : decode cL_isRight 55 = .ok (.iinc 6 1, 3) := by decide +kernel
theorem dL_isRight_58 : decode cL_isRight 58 = .ok (.goto (-28), 3) := by decide +kernel
theorem dL_isRight_61 : decode cL_isRight 61 = .ok (.iinc 5 1, 3) := by decide +kernel
theorem dL_isRight_64 : decode cL_isRight 64 = .ok (.goto (-44), 3) := by decide +kernel
theorem dL_isRight_67 : decode cL_isRight 67 = .ok (.iconst 0, 1) := by decide +kernel
theorem dL_isRight_68 : decode cL_isRight 68 = .ok (.istore 5, 2) := by decide +kernel
theorem dL_isRight_70 : decode cL_isRight 70 = .ok (.iload 5, 2) := by decide +kernel
theorem dL_isRight_72 : decode cL_isRight 72 = .ok (.iconst 3, 1) := by decide +kernel
theorem dL_isRight_73 : decode cL_isRight 73 = .ok (.if_icmp .ge 22, 3) := by decide +kernel
theorem dL_isRight_76 : decode cL_isRight 76 = .ok (.aload 4, 2) := by decide +kernel
theorem dL_isRight_78 : decode cL_isRight 78 = .ok (.iconst 1, 1) := by decide +kernel
theorem dL_isRight_79 : decode cL_isRight 79 = .ok (.aload_n 3, 1) := by decide +kernel
theorem dL_isRight_80 : decode cL_isRight 80 = .ok (.iload 5, 2) := by decide +kernel
theorem dL_isRight_82 : decode cL_isRight 82 = .ok (.iaload, 1) := by decide +kernel
theorem dL_isRight_83 : decode cL_isRight 83 = .ok (.iconst 0, 1) := by decide +kernel
theorem dL_isRight_84 : decode cL_isRight 84 = .ok (.iconst 0, 1) := by decide +kernel
theorem dL_isRight_85 : decode cL_isRight 85 = .ok (.invokevirtual 26, 3) := by decide +kernel
theorem dL_isRight_88 : decode cL_isRight 88 = .ok (.pop, 1) := by decide +kernel
theorem dL_isRight_89 : decode cL_isRight 89 = .ok (.iinc 5 1, 3) := by decide +kernel
theorem dL_isRight_92 : decode cL_isRight 92 = .ok (.goto (-22), 3) := by decide +kernel
theorem dL_isRight_95 : decode cL_isRight 95 = .ok (.iconst 0, 1) := by decide +kernel
theorem dL_isRight_96 : decode cL_isRight 96 = .ok (.istore 5, 2) := by decide +kernel
theorem dL_isRight_98 : decode cL_isRight 98 = .ok (.iload 5, 2) := by decide +kernel
theorem dL_isRight_100 : decode cL_isRight 100 = .ok (.aload_n 2, 1) := by decide +kernel
theorem dL_isRight_101 : decode cL_isRight 101 = .ok (.arraylength, 1) := by decide +kernel
theorem dL_isRight_102 : decode cL_isRight 102 = .ok (.if_icmp .ge 47, 3) := by decide +kernel
theorem dL_isRight_105 : decode cL_isRight 105 = .ok (.aload 4, 2) := by decide +kernel
theorem dL_isRight_107 : decode cL_isRight 107 = .ok (.aload_n 0, 1) := by decide +kernel
theorem dL_isRight_108 : decode cL_isRight 108 = .ok (.iload 5, 2) := by decide +kernel
theorem dL_isRight_110 : decode cL_isRight 110 = .ok (.iconst 0, 1) := by decide +kernel
theorem dL_isRight_111 : decode cL_isRight 111 = .ok (.invokevirtual 67, 3) := by decide +kernel
theorem dL_isRight_114 : decode cL_isRight 114 = .ok (.invokevirtual 63, 3) := by decide +kernel
theorem dL_isRight_117 : decode cL_isRight 117 = .ok (.iload 5, 2) := by decide +kernel
theorem dL_isRight_119 : decode cL_isRight 119 = .ok (.if_icmp .ne 22, 3) := by decide +kernel
theorem dL_isRight_122 : decode cL_isRight 122 = .ok (.aload_n 2, 1) := by decide +kernel
theorem dL_isRight_123 : decode cL_isRight 123 = .ok (.iload 5, 2) := by decide +kernel
theorem dL_isRight_125 : decode cL_isRight 125 = .ok (.baload, 1) := by decide +kernel
theorem dL_isRight_126 : decode cL_isRight 126 = .ok (.ifCond .ne 17, 3) := by decide +kernel
theorem dL_isRight_129 : decode cL_isRight 129 = .ok (.aload 4, 2) := by decide +kernel
theorem dL_isRight_131 : decode cL_isRight 131 = .ok (.iload 5, 2) := by decide +kernel
theorem dL_isRight_133 : decode cL_isRight 133 = .ok (.iconst 5, 1) := by decide +kernel
theorem dL_isRight_134 : decode cL_isRight 134 = .ok (.invokevirtual 67, 3) := by decide +kernel
theorem dL_isRight_137 : decode cL_isRight 137 = .ok (.iconst 1, 1) := by decide +kernel
theorem dL_isRight_138 : decode cL_isRight 138 = .ok (.if_icmp .ne 5, 3) := by decide +kernel
theorem dL_isRight_141 : decode cL_isRight 141 = .ok (.iconst 0, 1) := by decide +kernel
theorem dL_isRight_142 : decode cL_isRight 142 = .ok (.ireturn, 1) := by decide +kernel
theorem dL_isRight_143 : decode cL_isRight 143 = .ok (.iinc 5 1, 3) := by decide +kernel
theorem dL_isRight_146 : decode cL_isRight 146 = .ok (.goto (-48), 3) := by decide +kernel
theorem dL_isRight_149 : decode cL_isRight 149 = .ok (.iconst 1, 1) := by decide +kernel
theorem dL_isRight_150 : decode cL_isRight 150 = .ok (.ireturn, 1) := by decide +kernel
theorem dL_isWell_0 : decode cL_isWell 0 = .ok (.aload_n 0, 1) := by decide +kernel
theorem dL_isWell_1 : decode cL_isWell 1 = .ok (.iconst 5, 1) := by decide +kernel
theorem dL_isWell_2 : decode cL_isWell 2 = .ok (.invokevirtual 34, 3) := by decide +kernel
theorem dL_isWell_5 : decode cL_isWell 5 = .ok (.istore_n 2, 1) := by decide +kernel
theorem dL_isWell_6 : decode cL_isWell 6 = .ok (.iconst 0, 1) := by decide +kernel
theorem dL_isWell_7 : decode cL_isWell 7 = .ok (.istore_n 3, 1) := by decide +kernel
theorem dL_isWell_8 : decode cL_isWell 8 = .ok (.iload_n 3, 1) := by decide +kernel
theorem dL_isWell_9 : decode cL_isWell 9 = .ok (.aload_n 0, 1) := by decide +kernel
theorem dL_isWell_10 : decode cL_isWell 10 = .ok (.iconst 4, 1) := by decide +kernel
theorem dL_isWell_11 : decode cL_isWell 11 = .ok (.invokevirtual 34, 3) := by decide +kernel
theorem dL_isWell_14 : decode cL_isWell 14 = .ok (.if_icmp .ge 90, 3) := by decide +kernel
theorem dL_isWell_17 : decode cL_isWell 17 = .ok (.aload_n 0, 1) := by decide +kernel
theorem dL_isWell_18 : decode cL_isWell 18 = .ok (.iload_n 3, 1) := by decide +kernel
theorem dL_isWell_19 : decode cL_isWell 19 = .ok (.iconst 4, 1) := by decide +kernel
theorem dL_isWell_20 : decode cL_isWell 20 = .ok (.invokevirtual 67, 3) := by decide +kernel
theorem dL_isWell_23 : decode cL_isWell 23 = .ok (.istore 4, 2) := by decide +kernel
theorem dL_isWell_25 : decode cL_isWell 25 = .ok (.iload 4, 2) := by decide +kernel
theorem dL_isWell_27 : decode cL_isWell 27 = .ok (.ifCond .ne 7, 3) := by decide +kernel
theorem dL_isWell_30 : decode cL_isWell 30 = .ok (.iconst 1, 1) := by decide +kernel
theorem dL_isWell_31 : decode cL_isWell 31 = .ok (.goto 4, 3) := by decide +kernel
theorem dL_isWell_34 : decode cL_isWell 34 = .ok (.iconst 0, 1) := by decide +kernel
theorem dL_isWell_35 : decode cL_isWell 35 = .ok (.aload_n 0, 1) := by decide +kernel
theorem dL_isWell_36 : decode cL_isWell 36 = .ok (.iload_n 3, 1) := by decide +kernel
theorem dL_isWell_37 : decode cL_isWell 37 = .ok (.iconst 5, 1) := by decide +kernel
theorem dL_isWell_38 : decode cL_isWell 38 = .ok (.invokevirtual 67, 3) := by decide +kernel
theorem dL_isWell_41 : decode cL_isWell 41 = .ok (.iconst 1, 1) := by decide +kernel
theorem dL_isWell_42 : decode cL_isWell 42 = .ok (.if_icmp .ne 7, 3) := by decide +kernel
theorem dL_isWell_45 : decode cL_isWell 45 = .ok (.iconst 1, 1) := by decide +kernel
theorem dL_isWell_46 : decode cL_isWell 46 = .ok (.goto 4, 3) := by decide +kernel
theorem dL_isWell_49 : decode cL_isWell 49 = .ok (.iconst 0, 1) := by decide +kernel
theorem dL_isWell_50 : decode cL_isWell 50 = .ok (.if_icmp .ne 46, 3) := by decide +kernel
theorem dL_isWell_53 : decode cL_isWell 53 = .ok (.iload_n 2, 1) := by decide +kernel
theorem dL_isWell_54 : decode cL_isWell 54 = .ok (.ifCond .lt 24, 3) := by decide +kernel
theorem dL_isWell_57 : decode cL_isWell 57 = .ok (.iload_n 3, 1) := by decide +kernel
theorem dL_isWell_58 : decode cL_isWell 58 = .ok (.iload_n 2, 1) := by decide +kernel
theorem dL_isWell_59 : decode cL_isWell 59 = .ok (.if_icmp .eq 19, 3) := by decide +kernel
theorem dL_isWell_62 : decode cL_isWell 62 = .ok (.iload 4, 2) := by decide +kernel
theorem dL_isWell_64 : decode cL_isWell 64 = .ok (.ifCond .lt 14, 3) := by decide +kernel
theorem dL_isWell_67 : decode cL_isWell 67 = .ok (.iload 4, 2) := by decide +kernel
theorem dL_isWell_69 : decode cL_isWell 69 = .ok (.aload_n 0, 1) := by decide +kernel
theorem dL_isWell_70 : decode cL_isWell 70 = .ok (.iload_n 2, 1) := by decide +kernel
theorem dL_isWell_71 : decode cL_isWell 71 = .ok (.iconst 4, 1) := by decide +kernel
theorem dL_isWell_72 : decode cL_isWell 72 = .ok (.invokevirtual 67, 3) := by decide +kernel
theorem dL_isWell_75 : decode cL_isWell 75 = .ok (.if_icmp .le 21, 3) := by decide +kernel
theorem dL_isWell_78 : decode cL_isWell 78 = .ok (.iload_n 2, 1) := by decide +kernel
theorem dL_isWell_79 : decode cL_isWell 79 = .ok (.ifCond .lt 19, 3) := by decide +kernel
theorem dL_isWell_82 : decode cL_isWell 82 = .ok (.aload_n 0, 1) := by decide +kernel
theorem dL_isWell_83 : decode cL_isWell 83 = .ok (.iload_n 2, 1) := by decide +kernel
theorem dL_isWell_84 : decode cL_isWell 84 = .ok (.iconst 4, 1) := by decide +kernel
theorem dL_isWell_85 : decode cL_isWell 85 = .ok (.invokevirtual 67, 3) := by decide +kernel
theorem dL_isWell_88 : decode cL_isWell 88 = .ok (.aload_n 0, 1) := by decide +kernel
theorem dL_isWell_89 : decode cL_isWell 89 = .ok (.iconst 2, 1) := by decide +kernel
theorem dL_isWell_90 : decode cL_isWell 90 = .ok (.invokevirtual 34, 3) := by decide +kernel
theorem dL_isWell_93 : decode cL_isWell 93 = .ok (.if_icmp .le 5, 3) := by decide +kernel
theorem dL_isWell_96 : decode cL_isWell 96 = .ok (.iconst 0, 1) := by decide +kernel
theorem dL_isWell_97 : decode cL_isWell 97 = .ok (.ireturn, 1) := by decide +kernel
theorem dL_isWell_98 : decode cL_isWell 98 = .ok (.iinc 3 1, 3) := by decide +kernel
theorem dL_isWell_101 : decode cL_isWell 101 = .ok (.goto (-93), 3) := by decide +kernel
theorem dL_isWell_104 : decode cL_isWell 104 = .ok (.iconst 0, 1) := by decide +kernel
theorem dL_isWell_105 : decode cL_isWell 105 = .ok (.istore_n 3, 1) := by decide +kernel
theorem dL_isWell_106 : decode cL_isWell 106 = .ok (.iload_n 3, 1) := by decide +kernel
theorem dL_isWell_107 : decode cL_isWell 107 = .ok (.iload_n 1, 1) := by decide +kernel
theorem dL_isWell_108 : decode cL_isWell 108 = .ok (.if_icmp .ge 53, 3) := by decide +kernel
theorem dL_isWell_111 : decode cL_isWell 111 = .ok (.iconst 0, 1) := by decide +kernel
theorem dL_isWell_112 : decode cL_isWell 112 = .ok (.istore 4, 2) := by decide +kernel
theorem dL_isWell_114 : decode cL_isWell 114 = .ok (.iconst 0, 1) := by decide +kernel
theorem dL_isWell_115 : decode cL_isWell 115 = .ok (.istore 5, 2) := by decide +kernel
theorem dL_isWell_117 : decode cL_isWell 117 = .ok (.iload 5, 2) := by decide +kernel
theorem dL_isWell_119 : decode cL_isWell 119 = .ok (.iconst 5, 1) := by decide +kernel
theorem dL_isWell_120 : decode cL_isWell 120 = .ok (.if_icmp .ge 22, 3) := by decide +kernel
theorem dL_isWell_123 : decode cL_isWell 123 = .ok (.iload 4, 2) := by decide +kernel
theorem dL_isWell_125 : decode cL_isWell 125 = .ok (.aload_n 0, 1) := by decide +kernel
theorem dL_isWell_126 : decode cL_isWell 126 = .ok (.iload_n 3, 1) := by decide +kernel
theorem dL_isWell_127 : decode cL_isWell 127 = .ok (.iload 5, 2) := by decide +kernel
theorem dL_isWell_129 : decode cL_isWell 129 = .ok (.iconst 1, 1) := by decide +kernel
theorem dL_isWell_130 : decode cL_isWell 130 = .ok (.invokevirtual 88, 3) := by decide +kernel
theorem dL_isWell_133 : decode cL_isWell 133 = .ok (.iadd, 1) := by decide +kernel
theorem dL_isWell_134 : decode cL_isWell 134 = .ok (.istore 4, 2) := by decide +kernel
theorem dL_isWell_136 : decode cL_isWell 136 = .ok (.iinc 5 1, 3) := by decide +kernel
theorem dL_isWell_139 : decode cL_isWell 139 = .ok (.goto (-22), 3) := by decide +kernel
theorem dL_isWell_142 : decode cL_isWell 142 = .ok (.aload_n 0, 1) := by decide +kernel
theorem dL_isWell_143 : decode cL_isWell 143 = .ok (.iload_n 3, 1) := by decide +kernel
theorem dL_isWell_144 : decode cL_isWell 144 = .ok (.iconst 1, 1) := by decide +kernel
theorem dL_isWell_145 : decode cL_isWell 145 = .ok (.invokevirtual 78, 3) := by decide +kernel
theorem dL_isWell_148 : decode cL_isWell 148 = .ok (.iload 4, 2) := by decide +kernel
theorem dL_isWell_150 : decode cL_isWell 150 = .ok (.if_icmp .le 5, 3) := by decide +kernel
theorem dL_isWell_153 : decode cL_isWell 153 = .ok (.iconst 0, 1) := by decide +kernel
theorem dL_isWell_154 : decode cL_isWell 154 = .ok (.ireturn, 1) := by decide +kernel
theorem dL_isWell_155 : decode cL_isWell 155 = .ok (.iinc 3 1, 3) := by decide +kernel
theorem dL_isWell_158 : decode cL_isWell 158 = .ok (.goto (-52), 3) := by decide +kernel
theorem dL_isWell_161 : decode cL_isWell 161 = .ok (.aload_n 0, 1) := by decide +kernel
theorem dL_isWell_162 : decode cL_isWell 162 = .ok (.invokevirtual 59, 3) := by decide +kernel
theorem dL_isWell_165 : decode cL_isWell 165 = .ok (.ireturn, 1) := by decide +kernel
abbrev vwCl : List vw_C := [(RX0, TX0, 6), (RX1, TX1, 7), (RX2, TX2, 8), (RX3, TX3, 5), (RX4, TX4, 5), (RX5, TX5, 9)]
end
section
-- the states of the objects, what the worlds hold, the links between nest mates
abbrev q_IA : Type := Nat → Int32
abbrev q_LA : Type := Nat → Int64
abbrev q_Bd : Type := q_IA × q_IA × Int32 × Int64 × Int64 × Int64
abbrev q_Bk : Type := q_IA × q_IA × q_IA × q_IA × q_LA × Int32 × Int32
abbrev q_Pl : Type := q_IA × q_IA × q_IA × Int64 × Int64 × Int32 × Int32 × Int32
abbrev q_Wi : Type := Int32 × Int32 × Int32 × Int32 × Int32
abbrev q_Rt : Type := q_IA × q_IA × Int32 × Int32 × Int32
abbrev q_Fl : Type := Int32 × Int32 × Int32 × Int32
def nwF : List (String × Nat × String × String × String) := [(RX5, 61, RX0, "columns", "I"), (RX5, 78, RX1, "letters", "I"), (RX5, 95, RX1, "lines", "I"), (RX5, 123, RX0, "wear", "[I"), (RX5, 196, RX0, "flips", "[I"), (RX5, 287, RX0, "picture", "J"), (RX5, 294, RX0, "stuck", "J"), (RX5, 302, RX1, "rows", "[I"), (RX5, 305, RX1, "lengths", "[I"), (RX5, 318, RX2, "steps", "I"), (RX5, 342, RX0, "stuckBright", "J"), (RX5, 355, RX2, "goal", "J")]
def nwM : List (String × Nat × MethodName) := [(RX5, 9, yX0_init), (RX5, 18, yX1_init), (RX5, 25, yX2_init), (RX5, 32, yX4_init), (RX5, 39, yX3_init), (RX5, 64, yX0_begin), (RX5, 86, yX1_addLetter), (RX5, 90, yX1_canSpell), (RX5, 98, yX1_hasRow), (RX5, 103, yX1_addLine), (RX5, 113, yX0_faceOf), (RX5, 116, yX0_fix), (RX5, 131, yX0_renewColumn), (RX5, 202, yX0_stuckFaceOf), (RX5, 218, yX2_setOf), (RX5, 250, yX1_placed), (RX5, 267, yX0_isTrue), (RX5, 271, yX3_isTrue), (RX5, 321, yX2_flips), (RX5, 332, yX0_allFlips), (RX5, 338, yX4_fact), (RX5, 341, yX3_fact), (RX5, 351, yX0_withStuck), (RX5, 358, yX0_turnTo), (RX5, 362, yX2_giveUp), (RX5, 365, yX2_begin), (RX5, 371, yX2_choose), (RX5, 374, yX2_forbid), (RX5, 377, yX2_pictureBehind), (RX0, 32, yX5_dotIn), (RX0, 44, yX5_bitOf), (RX0, 48, yX5_put), (RX0, 52, yX5_at), (RX0, 56, yX5_setIn), (RX1, 32, yX5_put), (RX1, 39, yX5_at), (RX1, 47, yX5_put_), (RX1, 50, yX5_bitOf), (RX2, 38, yX5_setIn), (RX2, 51, yX5_at), (RX2, 55, yX5_put), (RX2, 76, yX5_bitOf)]
def nwA (U : State) : Prop := (∀ q ∈ nwF, va_Nw (.fieldLinkNest q.1 q.2.1 q.2.2.1 q.2.2.2.1 q.2.2.2.2 RX5) U) ∧ ∀ q ∈ nwM, va_Nw (.methodLinkNest q.1 q.2.1 q.2.2 RX5) U
theorem nwA.calling {U : State} {g : JFrame} {mk : MethodId} {a : Array Value} (h : nwA U) : nwA (U.calling g mk a) := ⟨fun q hq => va_Nw.same rfl (u := U) (U := U.calling g mk a) rfl (h.1 q hq), fun q hq => va_Nw.same rfl (u := U) (U := U.calling g mk a) rfl (h.2 q hq)⟩
theorem nwA.warm {s U : State} (hW : s.WarmedH U.vm) (h : nwA s) : nwA U := ⟨fun q hq => va_Nw.warmF hW (h.1 q hq), fun q hq => va_Nw.warmM hW (h.2 q hq)⟩
theorem nf_RX5_61 {U : State} {A : Array Value} (h : nwA U) : (Cond.fieldLinkNest RX5 61 RX0 "columns" "I" RX5).before A U = true := va_Nw.use rfl (h.1 (RX5, 61, RX0, "columns", "I") (List.mem_of_getElem? (i := 0) rfl))
theorem nf_RX5_78 {U : State} {A : Array Value} (h : nwA U) : (Cond.fieldLinkNest RX5 78 RX1 "letters" "I" RX5).before A U = true := va_Nw.use rfl (h.1 (RX5, 78, RX1, "letters", "I") (List.mem_of_getElem? (i := 1) rfl))
theorem nf_RX5_95 {U : State} {A : Array Value} (h : nwA U) : (Cond.fieldLinkNest RX5 95 RX1 "lines" "I" RX5).before A U = true := va_Nw.use rfl (h.1 (RX5, 95, RX1, "lines", "I") (List.mem_of_getElem? (i := 2) rfl))
theorem nf_RX5_123 {U : State} {A : Array Value} (h : nwA U) : (Cond.fieldLinkNest RX5 123 RX0 "wear" "[I" RX5).before A U = true := va_Nw.use rfl (h.1 (RX5, 123, RX0, "wear", "[I") (List.mem_of_getElem? (i := 3) rfl))
theorem nf_RX5_196 {U : State} {A : Array Value} (h : nwA U) : (Cond.fieldLinkNest RX5 196 RX0 "flips" "[I" RX5).before A U = true := va_Nw.use rfl (h.1 (RX5, 196, RX0, "flips", "[I") (List.mem_of_getElem? (i := 4) rfl))
theorem nf_RX5_287 {U : State} {A : Array Value} (h : nwA U) : (Cond.fieldLinkNest RX5 287 RX0 "picture" "J" RX5).before A U = true := va_Nw.use rfl (h.1 (RX5, 287, RX0, "picture", "J") (List.mem_of_getElem? (i := 5) rfl))
theorem nf_RX5_294 {U : State} {A : Array Value} (h : nwA U) : (Cond.fieldLinkNest RX5 294 RX0 "stuck" "J" RX5).before A U = true := va_Nw.use rfl (h.1 (RX5, 294, RX0, "stuck", "J") (List.mem_of_getElem? (i := 6) rfl))
theorem nf_RX5_302 {U : State} {A : Array Value} (h : nwA U) : (Cond.fieldLinkNest RX5 302 RX1 "rows" "[I" RX5).before A U = true := va_Nw.use rfl (h.1 (RX5, 302, RX1, "rows", "[I") (List.mem_of_getElem? (i := 7) rfl))
theorem nf_RX5_305 {U : State} {A : Array Value} (h : nwA U) : (Cond.fieldLinkNest RX5 305 RX1 "lengths" "[I" RX5).before A U = true := va_Nw.use rfl (h.1 (RX5, 305, RX1, "lengths", "[I") (List.mem_of_getElem? (i := 8) rfl))
theorem nf_RX5_318 {U : State} {A : Array Value} (h : nwA U) : (Cond.fieldLinkNest RX5 318 RX2 "steps" "I" RX5).before A U = true := va_Nw.use rfl (h.1 (RX5, 318, RX2, "steps", "I") (List.mem_of_getElem? (i := 9) rfl))
theorem nf_RX5_342 {U : State} {A : Array Value} (h : nwA U) : (Cond.fieldLinkNest RX5 342 RX0 "stuckBright" "J" RX5).before A U = true := va_Nw.use rfl (h.1 (RX5, 342, RX0, "stuckBright", "J") (List.mem_of_getElem? (i := 10) rfl))
theorem nf_RX5_355 {U : State} {A : Array Value} (h : nwA U) : (Cond.fieldLinkNest RX5 355 RX2 "goal" "J" RX5).before A U = true := va_Nw.use rfl (h.1 (RX5, 355, RX2, "goal", "J") (List.mem_of_getElem? (i := 11) rfl))
theorem nm_RX5_9 {U : State} (h : nwA U) : va_Nw (.methodLinkNest RX5 9 yX0_init RX5) U := h.2 (RX5, 9, yX0_init) (List.mem_of_getElem? (i := 0) rfl)
theorem nm_RX5_18 {U : State} (h : nwA U) : va_Nw (.methodLinkNest RX5 18 yX1_init RX5) U := h.2 (RX5, 18, yX1_init) (List.mem_of_getElem? (i := 1) rfl)
theorem nm_RX5_25 {U : State} (h : nwA U) : va_Nw (.methodLinkNest RX5 25 yX2_init RX5) U := h.2 (RX5, 25, yX2_init) (List.mem_of_getElem? (i := 2) rfl)
theorem nm_RX5_32 {U : State} (h : nwA U) : va_Nw (.methodLinkNest RX5 32 yX4_init RX5) U := h.2 (RX5, 32, yX4_init) (List.mem_of_getElem? (i := 3) rfl)
theorem nm_RX5_39 {U : State} (h : nwA U) : va_Nw (.methodLinkNest RX5 39 yX3_init RX5) U := h.2 (RX5, 39, yX3_init) (List.mem_of_getElem? (i := 4) rfl)
theorem nm_RX5_64 {U : State} (h : nwA U) : va_Nw (.methodLinkNest RX5 64 yX0_begin RX5) U := h.2 (RX5, 64, yX0_begin) (List.mem_of_getElem? (i := 5) rfl)
theorem nm_RX5_86 {U : State} (h : nwA U) : va_Nw (.methodLinkNest RX5 86 yX1_addLetter RX5) U := h.2 (RX5, 86, yX1_addLetter) (List.mem_of_getElem? (i := 6) rfl)
theorem nm_RX5_90 {U : State} (h : nwA U) : va_Nw (.methodLinkNest RX5 90 yX1_canSpell RX5) U := h.2 (RX5, 90, yX1_canSpell) (List.mem_of_getElem? (i := 7) rfl)
theorem nm_RX5_98 {U : State} (h : nwA U) : va_Nw (.methodLinkNest RX5 98 yX1_hasRow RX5) U := h.2 (RX5, 98, yX1_hasRow) (List.mem_of_getElem? (i := 8) rfl)
theorem nm_RX5_103 {U : State} (h : nwA U) : va_Nw (.methodLinkNest RX5 103 yX1_addLine RX5) U := h.2 (RX5, 103, yX1_addLine) (List.mem_of_getElem? (i := 9) rfl)
theorem nm_RX5_113 {U : State} (h : nwA U) : va_Nw (.methodLinkNest RX5 113 yX0_faceOf RX5) U := h.2 (RX5, 113, yX0_faceOf) (List.mem_of_getElem? (i := 10) rfl)
theorem nm_RX5_116 {U : State} (h : nwA U) : va_Nw (.methodLinkNest RX5 116 yX0_fix RX5) U := h.2 (RX5, 116, yX0_fix) (List.mem_of_getElem? (i := 11) rfl)
theorem nm_RX5_131 {U : State} (h : nwA U) : va_Nw (.methodLinkNest RX5 131 yX0_renewColumn RX5) U := h.2 (RX5, 131, yX0_renewColumn) (List.mem_of_getElem? (i := 12) rfl)
theorem nm_RX5_202 {U : State} (h : nwA U) : va_Nw (.methodLinkNest RX5 202 yX0_stuckFaceOf RX5) U := h.2 (RX5, 202, yX0_stuckFaceOf) (List.mem_of_getElem? (i := 13) rfl)
theorem nm_RX5_218 {U : State} (h : nwA U) : va_Nw (.methodLinkNest RX5 218 yX2_setOf RX5) U := h.2 (RX5, 218, yX2_setOf) (List.mem_of_getElem? (i := 14) rfl)
theorem nm_RX5_250 {U : State} (h : nwA U) : va_Nw (.methodLinkNest RX5 250 yX1_placed RX5) U := h.2 (RX5, 250, yX1_placed) (List.mem_of_getElem? (i := 15) rfl)
theorem nm_RX5_267 {U : State} (h : nwA U) : va_Nw (.methodLinkNest RX5 267 yX0_isTrue RX5) U := h.2 (RX5, 267, yX0_isTrue) (List.mem_of_getElem? (i := 16) rfl)
theorem nm_RX5_271 {U : State} (h : nwA U) : va_Nw (.methodLinkNest RX5 271 yX3_isTrue RX5) U := h.2 (RX5, 271, yX3_isTrue) (List.mem_of_getElem? (i := 17) rfl)
theorem nm_RX5_321 {U : State} (h : nwA U) : va_Nw (.methodLinkNest RX5 321 yX2_flips RX5) U := h.2 (RX5, 321, yX2_flips) (List.mem_of_getElem? (i := 18) rfl)
theorem nm_RX5_332 {U : State} (h : nwA U) : va_Nw (.methodLinkNest RX5 332 yX0_allFlips RX5) U := h.2 (RX5, 332, yX0_allFlips) (List.mem_of_getElem? (i := 19) rfl)
theorem nm_RX5_338 {U : State} (h : nwA U) : va_Nw (.methodLinkNest RX5 338 yX4_fact RX5) U := h.2 (RX5, 338, yX4_fact) (List.mem_of_getElem? (i := 20) rfl)
theorem nm_RX5_341 {U : State} (h : nwA U) : va_Nw (.methodLinkNest RX5 341 yX3_fact RX5) U := h.2 (RX5, 341, yX3_fact) (List.mem_of_getElem? (i := 21) rfl)
theorem nm_RX5_351 {U : State} (h : nwA U) : va_Nw (.methodLinkNest RX5 351 yX0_withStuck RX5) U := h.2 (RX5, 351, yX0_withStuck) (List.mem_of_getElem? (i := 22) rfl)
theorem nm_RX5_358 {U : State} (h : nwA U) : va_Nw (.methodLinkNest RX5 358 yX0_turnTo RX5) U := h.2 (RX5, 358, yX0_turnTo) (List.mem_of_getElem? (i := 23) rfl)
theorem nm_RX5_362 {U : State} (h : nwA U) : va_Nw (.methodLinkNest RX5 362 yX2_giveUp RX5) U := h.2 (RX5, 362, yX2_giveUp) (List.mem_of_getElem? (i := 24) rfl)
theorem nm_RX5_365 {U : State} (h : nwA U) : va_Nw (.methodLinkNest RX5 365 yX2_begin RX5) U := h.2 (RX5, 365, yX2_begin) (List.mem_of_getElem? (i := 25) rfl)
theorem nm_RX5_371 {U : State} (h : nwA U) : va_Nw (.methodLinkNest RX5 371 yX2_choose RX5) U := h.2 (RX5, 371, yX2_choose) (List.mem_of_getElem? (i := 26) rfl)
theorem nm_RX5_374 {U : State} (h : nwA U) : va_Nw (.methodLinkNest RX5 374 yX2_forbid RX5) U := h.2 (RX5, 374, yX2_forbid) (List.mem_of_getElem? (i := 27) rfl)
theorem nm_RX5_377 {U : State} (h : nwA U) : va_Nw (.methodLinkNest RX5 377 yX2_pictureBehind RX5) U := h.2 (RX5, 377, yX2_pictureBehind) (List.mem_of_getElem? (i := 28) rfl)
theorem nm_RX0_32 {U : State} (h : nwA U) : va_Nw (.methodLinkNest RX0 32 yX5_dotIn RX5) U := h.2 (RX0, 32, yX5_dotIn) (List.mem_of_getElem? (i := 29) rfl)
theorem nm_RX0_44 {U : State} (h : nwA U) : va_Nw (.methodLinkNest RX0 44 yX5_bitOf RX5) U := h.2 (RX0, 44, yX5_bitOf) (List.mem_of_getElem? (i := 30) rfl)
theorem nm_RX0_48 {U : State} (h : nwA U) : va_Nw (.methodLinkNest RX0 48 yX5_put RX5) U := h.2 (RX0, 48, yX5_put) (List.mem_of_getElem? (i := 31) rfl)
theorem nm_RX0_52 {U : State} (h : nwA U) : va_Nw (.methodLinkNest RX0 52 yX5_at RX5) U := h.2 (RX0, 52, yX5_at) (List.mem_of_getElem? (i := 32) rfl)
theorem nm_RX0_56 {U : State} (h : nwA U) : va_Nw (.methodLinkNest RX0 56 yX5_setIn RX5) U := h.2 (RX0, 56, yX5_setIn) (List.mem_of_getElem? (i := 33) rfl)
theorem nm_RX1_32 {U : State} (h : nwA U) : va_Nw (.methodLinkNest RX1 32 yX5_put RX5) U := h.2 (RX1, 32, yX5_put) (List.mem_of_getElem? (i := 34) rfl)
theorem nm_RX1_39 {U : State} (h : nwA U) : va_Nw (.methodLinkNest RX1 39 yX5_at RX5) U := h.2 (RX1, 39, yX5_at) (List.mem_of_getElem? (i := 35) rfl)
theorem nm_RX1_47 {U : State} (h : nwA U) : va_Nw (.methodLinkNest RX1 47 yX5_put_ RX5) U := h.2 (RX1, 47, yX5_put_) (List.mem_of_getElem? (i := 36) rfl)
theorem nm_RX1_50 {U : State} (h : nwA U) : va_Nw (.methodLinkNest RX1 50 yX5_bitOf RX5) U := h.2 (RX1, 50, yX5_bitOf) (List.mem_of_getElem? (i := 37) rfl)
theorem nm_RX2_38 {U : State} (h : nwA U) : va_Nw (.methodLinkNest RX2 38 yX5_setIn RX5) U := h.2 (RX2, 38, yX5_setIn) (List.mem_of_getElem? (i := 38) rfl)
theorem nm_RX2_51 {U : State} (h : nwA U) : va_Nw (.methodLinkNest RX2 51 yX5_at RX5) U := h.2 (RX2, 51, yX5_at) (List.mem_of_getElem? (i := 39) rfl)
theorem nm_RX2_55 {U : State} (h : nwA U) : va_Nw (.methodLinkNest RX2 55 yX5_put RX5) U := h.2 (RX2, 55, yX5_put) (List.mem_of_getElem? (i := 40) rfl)
theorem nm_RX2_76 {U : State} (h : nwA U) : va_Nw (.methodLinkNest RX2 76 yX5_bitOf RX5) U := h.2 (RX2, 76, yX5_bitOf) (List.mem_of_getElem? (i := 41) rfl)
abbrev wBd (b0 b1 b2 : Nat) (cI : ClassId) (B : q_Bd) : va_W := [(b0, .inr (0, [.ref b1, .ref b2, .int B.2.2.1, .long B.2.2.2.1, .long B.2.2.2.2.1, .long B.2.2.2.2.2])), (b1, .inl (cI, 40, .inl B.1)), (b2, .inl (cI, 8, .inl B.2.1))]
abbrev wBk (k0 k1 k2 k3 k4 k5 : Nat) (cI cJ : ClassId) (K : q_Bk) : va_W := [(k0, .inr (1, [.ref k1, .ref k2, .ref k3, .ref k4, .ref k5, .int K.2.2.2.2.2.1, .int K.2.2.2.2.2.2])), (k1, .inl (cI, 7, .inl K.1)), (k2, .inl (cI, 7, .inl K.2.1)), (k3, .inl (cI, 8, .inl K.2.2.1)), (k4, .inl (cI, 8, .inl K.2.2.2.1)), (k5, .inl (cJ, 8, .inr (.inl K.2.2.2.2.1)))]
abbrev wPl (n0 n1 n2 n3 : Nat) (cI : ClassId) (N : q_Pl) : va_W := [(n0, .inr (2, [.ref n1, .ref n2, .ref n3, .long N.2.2.2.1, .long N.2.2.2.2.1, .int N.2.2.2.2.2.1, .int N.2.2.2.2.2.2.1, .int N.2.2.2.2.2.2.2])), (n1, .inl (cI, 256, .inl N.1)), (n2, .inl (cI, 256, .inl N.2.1)), (n3, .inl (cI, 8, .inl N.2.2.1))]
abbrev wWi (i0 : Nat) (I : q_Wi) : va_W := [(i0, .inr (4, [.int I.1, .int I.2.1, .int I.2.2.1, .int I.2.2.2.1, .int I.2.2.2.2]))]
abbrev wRt (r0 r1 r2 : Nat) (cI : ClassId) (T : q_Rt) : va_W := [(r0, .inr (3, [.ref r1, .ref r2, .int T.2.2.1, .int T.2.2.2.1, .int T.2.2.2.2])), (r1, .inl (cI, 6, .inl T.1)), (r2, .inl (cI, 6, .inl T.2.1))]
abbrev wSg (a : Nat → Nat) (cI cJ : ClassId) (F : q_Fl) (B : q_Bd) (K : q_Bk) (N : q_Pl) (I : q_Wi) (T : q_Rt) : va_W := [(a 0, .inr (5, [.ref (a 1), .ref (a 4), .ref (a 10), .ref (a 14), .ref (a 15), .int F.1, .int F.2.1, .int F.2.2.1, .int F.2.2.2])), (a 1, .inr (0, [.ref (a 2), .ref (a 3), .int B.2.2.1, .long B.2.2.2.1, .long B.2.2.2.2.1, .long B.2.2.2.2.2])), (a 2, .inl (cI, 40, .inl B.1)), (a 3, .inl (cI, 8, .inl B.2.1)), (a 4, .inr (1, [.ref (a 5), .ref (a 6), .ref (a 7), .ref (a 8), .ref (a 9), .int K.2.2.2.2.2.1, .int K.2.2.2.2.2.2])), (a 5, .inl (cI, 7, .inl K.1)), (a 6, .inl (cI, 7, .inl K.2.1)), (a 7, .inl (cI, 8, .inl K.2.2.1)), (a 8, .inl (cI, 8, .inl K.2.2.2.1)), (a 9, .inl (cJ, 8, .inr (.inl K.2.2.2.2.1))), (a 10, .inr (2, [.ref (a 11), .ref (a 12), .ref (a 13), .long N.2.2.2.1, .long N.2.2.2.2.1, .int N.2.2.2.2.2.1, .int N.2.2.2.2.2.2.1, .int N.2.2.2.2.2.2.2])), (a 11, .inl (cI, 256, .inl N.1)), (a 12, .inl (cI, 256, .inl N.2.1)), (a 13, .inl (cI, 8, .inl N.2.2.1)), (a 14, .inr (4, [.int I.1, .int I.2.1, .int I.2.2.1, .int I.2.2.2.1, .int I.2.2.2.2])), (a 15, .inr (3, [.ref (a 16), .ref (a 17), .int T.2.2.1, .int T.2.2.2.1, .int T.2.2.2.2])), (a 16, .inl (cI, 6, .inl T.1)), (a 17, .inl (cI, 6, .inl T.2.1))]
abbrev q_ty (cI cJ : ClassId) : List (ClassId × FieldType) := [(cI, .int), (cJ, .long)]
def q_B (D : va_G) (cl : List vw_C) (ws : va_W) (tys : List (ClassId × FieldType)) : State → Prop := fun U => va_P D cl ws U.heap ∧ va_K D cl tys U ∧ nwA U
theorem q_Bblind {av : List Value} {D : va_G} {cl : List vw_C} {ws : va_W} {tys : List (ClassId × FieldType)} : FrameBlind (va_Pc av (q_B D cl ws tys)) := fun a U g mk q => ⟨q.1, q.2.1, va_K.moved (u := U) (U := U.calling g mk a) (Vm.Alike.refl U.vm) q.2.2.1, q.2.2.2.calling⟩
theorem q_Bpre {av : List Value} {D : va_G} {cl : List vw_C} {ws : va_W} {tys : List (ClassId × FieldType)} {s : State} {H : Heap} (hP : va_P D cl ws H) (hK : va_K D cl tys s) (hn : nwA s) : ∀ U : State, U.heap = H → s.WarmedH U.vm → va_Pc av (q_B D cl ws tys) av.toArray U := fun U hU hW => ⟨rfl, by rw [hU]; exact hP, va_K.moved hW.alike hK, hn.warm hW⟩
/-- what a method that writes starts from, and ends in -/
def q_W (D : va_G) (cl : List vw_C) (ws : va_W) (tys : List (ClassId × FieldType)) (sz : Nat) : State → Prop := fun U => U.heap.size = sz ∧ va_P D cl ws U.heap ∧ va_K D cl tys U ∧ nwA U ∧ va_D (fun _ => True) ws
def q_E (D : va_G) (cl : List vw_C) (ws : va_W) (tys : List (ClassId × FieldType)) (A : Nat → Prop) (t : State) : Prop := va_P D cl ws t.heap ∧ va_K D cl tys t ∧ va_D A ws
theorem q_Wblind {av : List Value} {D : va_G} {cl : List vw_C} {ws : va_W} {tys : List (ClassId × FieldType)} {sz : Nat} : FrameBlind (va_Pc av (q_W D cl ws tys sz)) := fun a U g mk q => ⟨q.1, q.2.1, q.2.2.1, va_K.moved (u := U) (U := U.calling g mk a) (Vm.Alike.refl U.vm) q.2.2.2.1, q.2.2.2.2.1.calling, q.2.2.2.2.2⟩
theorem q_Wpre {av : List Value} {D : va_G} {cl : List vw_C} {ws : va_W} {tys : List (ClassId × FieldType)} {s : State} {H : Heap} {A : Nat → Prop} (hP : va_P D cl ws H) (hK : va_K D cl tys s) (hn : nwA s) (hD : va_D A ws) : ∀ U : State, U.heap = H → s.WarmedH U.vm → va_Pc av (q_W D cl ws tys H.size) av.toArray U := fun U hU hW => ⟨rfl, by rw [hU], by rw [hU]; exact hP, va_K.moved hW.alike hK, hn.warm hW, hD.weaken (fun _ _ _ _ => trivial)⟩
section QC
variable {p : Program} {l : Launch} {e : Env} {R : Room} {s : State} {m : MethodId} {args : Array Value} {below : List Frame} {meth : Method} {c : Code} {H : Heap} {locs : List Loc} {cells slots : Nat} {Q : State → Prop}
variable {y : MethodName} {bytes cc : ByteArray} {maxL nL n index pc : Nat} {ret : Option FieldType} {ws : List Cond} {rm : Room} {Ts : List Cond} {own C host : String} {b : Nat} {As rest : List Value} {ls : Array Slot} {st0 : List Value} {r : Value}
variable {D : va_G} {cl : List vw_C} {wc : va_W} {tys : List (ClassId × FieldType)}
theorem q_rV (S : CallFix p m c cc nL s args Ts own) (hM : Met l y ws rm (va_Pc (.ref b :: As) (q_B D cl wc tys)) (k2_QcV r) 0 0 (fun _ => False)) (cw : CallW R s args own C index y bytes maxL ret ws rm 0 0 n) (hK : va_K D cl tys s) (hn : nwA s) (hP : va_P D cl wc H)
    {ci : Nat} {F : u_T} {N : Nat} {fs : List Value} (hc : cl[ci]? = some (C, F, N)) (he : wc[0]? = some (b, .inr (ci, fs))) (hlen : As.length = n) (hsize : ls.size = nL) (hst : st0 = As.reverse ++ .ref b :: rest) (hW : (rest.map fun v => v.category).sum ≤ 8) (hdg : decode cc pc = .ok (.invokevirtual index, 3)) (hf : cells ≤ R.cells ∧ slots ≤ R.slots)
    (kk : W p l e R s m args below meth c H locs cells slots Q (F0 m (pc + 3) ls (r :: rest))) : W p l e R s m args below meth c H locs cells slots Q (F0 m pc ls st0) :=
  W.callV (va_Run.run (va_runV (As := As) (rest := rest) (g := F0 m pc ls st0) S hM cw ⟨q_Bblind, va_recv hK hP hc he, q_Bpre hP hK hn⟩ rfl hlen hsize hst (lv_room hW) hdg hf)) kk
theorem q_rVN (S : CallFix p m c cc nL s args Ts own) (hM : Met l y ws rm (va_Pc (.ref b :: As) (q_B D cl wc tys)) (k2_QcV r) 0 0 (fun _ => False)) (cw : va_CN R s args own index y host bytes maxL ret ws rm 0 0 n ∧ (Cond.instanceMethod y).before args s = true ∧ (Cond.selects C y y).before args s = true) (hK : va_K D cl tys s) (hn : nwA s) (hP : va_P D cl wc H)
    {ci : Nat} {F : u_T} {N : Nat} {fs : List Value} (hc : cl[ci]? = some (C, F, N)) (he : wc[0]? = some (b, .inr (ci, fs))) (hlen : As.length = n) (hsize : ls.size = nL) (hst : st0 = As.reverse ++ .ref b :: rest) (hW : (rest.map fun v => v.category).sum ≤ 8) (hdg : decode cc pc = .ok (.invokevirtual index, 3)) (hf : cells ≤ R.cells ∧ slots ≤ R.slots)
    (kk : W p l e R s m args below meth c H locs cells slots Q (F0 m (pc + 3) ls (r :: rest))) : W p l e R s m args below meth c H locs cells slots Q (F0 m pc ls st0) :=
  W.callV (va_Run.run (va_runVN (As := As) (rest := rest) (g := F0 m pc ls st0) S hM cw ⟨q_Bblind, va_recv hK hP hc he, q_Bpre hP hK hn⟩ rfl hlen hsize hst (lv_room hW) hdg hf)) kk
theorem q_rS (S : CallFix p m c cc nL s args Ts own) (hM : Met l y ws rm (va_Pc As (q_B D cl wc tys)) (k2_QcV r) 0 0 (fun _ => False)) (cw : CallB R s args own index y bytes maxL ret ws rm 0 0 n ∧ (Cond.static y).before args s = true) (hK : va_K D cl tys s) (hn : nwA s) (hP : va_P D cl wc H)
    (hlen : As.length = n) (hsize : ls.size = nL) (hst : st0 = As.reverse ++ rest) (hW : (rest.map fun v => v.category).sum ≤ 8) (hdg : decode cc pc = .ok (.invokestatic index, 3)) (hf : cells ≤ R.cells ∧ slots ≤ R.slots)
    (kk : W p l e R s m args below meth c H locs cells slots Q (F0 m (pc + 3) ls (r :: rest))) : W p l e R s m args below meth c H locs cells slots Q (F0 m pc ls st0) :=
  W.callV (va_Run.run (va_runS (As := As) (rest := rest) (g := F0 m pc ls st0) S hM cw ⟨q_Bblind, q_Bpre hP hK hn⟩ rfl hlen hsize hst (lv_room hW) hdg hf)) kk
theorem q_rSN (S : CallFix p m c cc nL s args Ts own) (hM : Met l y ws rm (va_Pc As (q_B D cl wc tys)) (k2_QcV r) 0 0 (fun _ => False)) (cw : va_CN R s args own index y host bytes maxL ret ws rm 0 0 n ∧ (Cond.static y).before args s = true ∧ True) (hK : va_K D cl tys s) (hn : nwA s) (hP : va_P D cl wc H)
    (hlen : As.length = n) (hsize : ls.size = nL) (hst : st0 = As.reverse ++ rest) (hW : (rest.map fun v => v.category).sum ≤ 8) (hdg : decode cc pc = .ok (.invokestatic index, 3)) (hf : cells ≤ R.cells ∧ slots ≤ R.slots)
    (kk : W p l e R s m args below meth c H locs cells slots Q (F0 m (pc + 3) ls (r :: rest))) : W p l e R s m args below meth c H locs cells slots Q (F0 m pc ls st0) :=
  W.callV (va_Run.run (va_runSN (As := As) (rest := rest) (g := F0 m pc ls st0) S hM cw ⟨q_Bblind, q_Bpre hP hK hn⟩ rfl hlen hsize hst (lv_room hW) hdg hf)) kk
end QC
theorem q_in {i : Int32} {n : Nat} (h1 : ¬ i < 0) (h2 : ¬ nI n ≤ i) (hn : n < 2147483648) : vp_in i n := by
  obtain ⟨j, hj, rfl⟩ := nI_of h1
  exact vp_in_nI (Nat.lt_of_not_le fun h => h2 (nI_le h hj)) hn
theorem q_in2 {i : Int32} {n : Nat} (h1 : ¬ i < 0) (h2 : i < nI n) (hn : n < 2147483648) : vp_in i n := by
  obtain ⟨j, hj, rfl⟩ := nI_of h1
  exact vp_in_nI (Nat.lt_of_not_le fun h => nI_nlt h hj h2) hn
theorem q_lt0 {x : Int32} (h : 0 < x) : ¬ x < 0 := by rw [Int32.lt_iff_toInt_lt] at h ⊢; omega
theorem q_le0 {x : Int32} (h : 0 ≤ x) : ¬ x < 0 := by rw [Int32.le_iff_toInt_le] at h; rw [Int32.lt_iff_toInt_lt]; omega
theorem q_gt0 {x : Int32} (h : ¬ x ≤ 0) : ¬ x < 0 := by rw [Int32.le_iff_toInt_le] at h; rw [Int32.lt_iff_toInt_lt]; omega
/-- where an int lies in an array -/
def q_ix (i : Int32) (n : Nat) : Bool := decide (0 ≤ i.toInt ∧ i.toInt < n)
theorem q_ix_in {i : Int32} {n : Nat} (h : q_ix i n = true) : vp_in i n := vp_in_iff.mpr (of_decide_eq_true h)
/-- a number is given a name -/
theorem q_sw (x : Int32) (k : Int) (h : ¬ x = Int32.ofInt k) (hk : (Int32.ofInt k).toInt = k) : x.toInt ≠ k := fun e => h (Int32.toInt_inj.mp (by rw [hk]; exact e))
end
section
def f_X5_bitOf  (x0 : Int32) (x1 : Int32) : Int32 := (5 * x0) + x1
set_option maxHeartbeats 4000000 in
set_option maxRecDepth 100000 in
theorem c_X5_bitOf (l : Launch) (dC : Nat → ClassId) (dI : Nat → Nat → Nat) (cI cJ : ClassId)   (x0 : Int32) (x1 : Int32) : Met l yX5_bitOf wsX5_bitOf ({ frames := 0, cells := 0, slots := 0, locals := 0 } : Room) (va_Pc [.int x0, .int x1] (q_B (dC, dI) vwCl [] (q_ty cI cJ))) (k2_QcV (.int (f_X5_bitOf x0 x1))) 0 0 (fun _ => False) := by
  refine Met.ofW (cc := cX5_bitOf) (maxL := 2) (ret := (some .int)) (by decide) rfl ?_
  intro p e s m args below meth c s₁ BB hml hv
  obtain ⟨rfl, hP, hK, hn⟩ := hv
  have hx := BB.exec
  have hb := BB.bytes
  have hr := BB.returns
  have hts := atoms_spec (ws := wsX5_bitOf) BB.pre
  have hown : s.vm.findClass RX5 = some m.cls := findClass_of_methodNamed BB.named
  have hlocks := BB.notSynchronized
  have hl := lv_entry [.int x0, .int x1] (n := 2) (Nat.le_of_ble_eq_true rfl)
  rw [lg_entry_eq]
  generalize (lg_sl [.int x0, .int x1] ++ List.replicate (2 - (lg_sl [.int x0, .int x1]).length) Slot.unset).toArray = ls at hl ⊢
  have hl : lv_has ls 2 [(0, .int x0), (1, .int x1)] := hl
  generalize hf : f_X5_bitOf x0 x1 = r0
  unfold f_X5_bitOf at hf
  refine lv_iconst (v := 5) hx hb dX5_bitOf_0 (by decide) ?_
  refine lv_iload_n hx hb dX5_bitOf_1 rfl (lv_at hl 0 rfl) ?_
  refine lv_imul hx hb dX5_bitOf_2 ?_
  refine lv_iload_n hx hb dX5_bitOf_3 rfl (lv_at hl 1 rfl) ?_
  refine lv_iadd hx hb dX5_bitOf_4 ?_
  exact W.iret (v := (5 * x0) + x1) hx hb hr (fun t ht hW => ⟨congrArg (fun z => Outcome.returned (some (.int z))) hf, ht⟩) (fun q h => absurd h List.not_mem_nil) dX5_bitOf_5
def f_X5_dotIn  (x0 : Int32) (x1 : Int32) : Int64 := (1 : Int64) <<< ((f_X5_bitOf x0 x1).toInt64 &&& 63)
set_option maxHeartbeats 4000000 in
set_option maxRecDepth 100000 in
theorem c_X5_dotIn (l : Launch) (dC : Nat → ClassId) (dI : Nat → Nat → Nat) (cI cJ : ClassId)   (x0 : Int32) (x1 : Int32) : Met l yX5_dotIn wsX5_dotIn ({ frames := 1, cells := 0, slots := 0, locals := 21 } : Room) (va_Pc [.int x0, .int x1] (q_B (dC, dI) vwCl [] (q_ty cI cJ))) (k2_QcV (.long (f_X5_dotIn x0 x1))) 0 0 (fun _ => False) := by
  refine Met.ofW (cc := cX5_dotIn) (maxL := 2) (ret := (some .long)) (by decide) rfl ?_
  intro p e s m args below meth c s₁ BB hml hv
  obtain ⟨rfl, hP, hK, hn⟩ := hv
  have hx := BB.exec
  have hb := BB.bytes
  have hr := BB.returns
  have hts := atoms_spec (ws := wsX5_dotIn) BB.pre
  have hown : s.vm.findClass RX5 = some m.cls := findClass_of_methodNamed BB.named
  have hlocks := BB.notSynchronized
  have hl := lv_entry [.int x0, .int x1] (n := 2) (Nat.le_of_ble_eq_true rfl)
  rw [lg_entry_eq]
  generalize (lg_sl [.int x0, .int x1] ++ List.replicate (2 - (lg_sl [.int x0, .int x1]).length) Slot.unset).toArray = ls at hl ⊢
  have hl : lv_has ls 2 [(0, .int x0), (1, .int x1)] := hl
  generalize hf : f_X5_dotIn x0 x1 = r0
  unfold f_X5_dotIn at hf
  refine lv_lconst (v := 1) hx hb dX5_dotIn_0 (by decide) ?_
  refine lv_iload_n hx hb dX5_dotIn_1 rfl (lv_at hl 0 rfl) ?_
  refine lv_iload_n hx hb dX5_dotIn_2 rfl (lv_at hl 1 rfl) ?_
  refine q_rS (As := [.int x0, .int x1]) (rest := [.long 1]) ⟨hx, hb, hml, hown, hts⟩ (c_X5_bitOf l dC dI cI cJ x0 x1) (va_cwS 2 hts gX5_dotIn_X5_bitOf rfl rfl rfl (by decide +kernel) ⟨Nat.le_of_ble_eq_true rfl, Nat.le_of_ble_eq_true rfl⟩) hK hn hP rfl hl.1 rfl (Nat.le_of_ble_eq_true rfl) dX5_dotIn_3 ⟨Nat.zero_le _, Nat.zero_le _⟩ ?_
  refine lv_lshl (v := (1 : Int64) <<< ((f_X5_bitOf x0 x1).toInt64 &&& 63)) hx hb dX5_dotIn_6 rfl ?_
  exact W.lret (v := (1 : Int64) <<< ((f_X5_bitOf x0 x1).toInt64 &&& 63)) hx hb hr (fun t ht hW => ⟨congrArg (fun z => Outcome.returned (some (.long z))) hf, ht⟩) (fun q h => absurd h List.not_mem_nil) dX5_dotIn_7
def f_X5_setIn  (x0 : Int64) (x1 : Int32) : Int32 := (((x0.toUInt64 >>> ((5 * x1).toInt64.toUInt64 &&& Int64.toUInt64 63)).toInt64).toInt32) &&& 31
set_option maxHeartbeats 4000000 in
set_option maxRecDepth 100000 in
theorem c_X5_setIn (l : Launch) (dC : Nat → ClassId) (dI : Nat → Nat → Nat) (cI cJ : ClassId)   (x0 : Int64) (x1 : Int32) : Met l yX5_setIn wsX5_setIn ({ frames := 0, cells := 0, slots := 0, locals := 0 } : Room) (va_Pc [.long x0, .int x1] (q_B (dC, dI) vwCl [] (q_ty cI cJ))) (k2_QcV (.int (f_X5_setIn x0 x1))) 0 0 (fun _ => False) := by
  refine Met.ofW (cc := cX5_setIn) (maxL := 3) (ret := (some .int)) (by decide) rfl ?_
  intro p e s m args below meth c s₁ BB hml hv
  obtain ⟨rfl, hP, hK, hn⟩ := hv
  have hx := BB.exec
  have hb := BB.bytes
  have hr := BB.returns
  have hts := atoms_spec (ws := wsX5_setIn) BB.pre
  have hown : s.vm.findClass RX5 = some m.cls := findClass_of_methodNamed BB.named
  have hlocks := BB.notSynchronized
  have hl := lv_entry [.long x0, .int x1] (n := 3) (Nat.le_of_ble_eq_true rfl)
  rw [lg_entry_eq]
  generalize (lg_sl [.long x0, .int x1] ++ List.replicate (3 - (lg_sl [.long x0, .int x1]).length) Slot.unset).toArray = ls at hl ⊢
  have hl : lv_has ls 3 [(0, .long x0), (2, .int x1)] := hl
  generalize hf : f_X5_setIn x0 x1 = r0
  unfold f_X5_setIn at hf
  refine lv_lload_n hx hb dX5_setIn_0 rfl (lv_at hl 0 rfl) ?_
  refine lv_iconst (v := 5) hx hb dX5_setIn_1 (by decide) ?_
  refine lv_iload_n hx hb dX5_setIn_2 rfl (lv_at hl 1 rfl) ?_
  refine lv_imul hx hb dX5_setIn_3 ?_
  refine lv_lushr (v := (x0.toUInt64 >>> ((5 * x1).toInt64.toUInt64 &&& Int64.toUInt64 63)).toInt64) hx hb dX5_setIn_4 rfl ?_
  refine lv_l2i (v := ((x0.toUInt64 >>> ((5 * x1).toInt64.toUInt64 &&& Int64.toUInt64 63)).toInt64).toInt32) hx hb dX5_setIn_5 rfl ?_
  refine lv_bipush (v := 31) hx hb dX5_setIn_6 (by decide) ?_
  refine lv_iand hx hb dX5_setIn_8 ?_
  exact W.iret (v := (((x0.toUInt64 >>> ((5 * x1).toInt64.toUInt64 &&& Int64.toUInt64 63)).toInt64).toInt32) &&& 31) hx hb hr (fun t ht hW => ⟨congrArg (fun z => Outcome.returned (some (.int z))) hf, ht⟩) (fun q h => absurd h List.not_mem_nil) dX5_setIn_9
def f_X5_lesser  (x0 : Int32) (x1 : Int32) : Int32 := (if x0 = (-1) then x1 else (if x1 = (-1) then x0 else (if x0 ≤ x1 then x0 else x1)))
set_option maxHeartbeats 4000000 in
set_option maxRecDepth 100000 in
theorem c_X5_lesser (l : Launch) (dC : Nat → ClassId) (dI : Nat → Nat → Nat) (cI cJ : ClassId)   (x0 : Int32) (x1 : Int32) : Met l yX5_lesser wsX5_lesser ({ frames := 0, cells := 0, slots := 0, locals := 0 } : Room) (va_Pc [.int x0, .int x1] (q_B (dC, dI) vwCl [] (q_ty cI cJ))) (k2_QcV (.int (f_X5_lesser x0 x1))) 0 0 (fun _ => False) := by
  refine Met.ofW (cc := cX5_lesser) (maxL := 2) (ret := (some .int)) (by decide) rfl ?_
  intro p e s m args below meth c s₁ BB hml hv
  obtain ⟨rfl, hP, hK, hn⟩ := hv
  have hx := BB.exec
  have hb := BB.bytes
  have hr := BB.returns
  have hts := atoms_spec (ws := wsX5_lesser) BB.pre
  have hown : s.vm.findClass RX5 = some m.cls := findClass_of_methodNamed BB.named
  have hlocks := BB.notSynchronized
  have hl := lv_entry [.int x0, .int x1] (n := 2) (Nat.le_of_ble_eq_true rfl)
  rw [lg_entry_eq]
  generalize (lg_sl [.int x0, .int x1] ++ List.replicate (2 - (lg_sl [.int x0, .int x1]).length) Slot.unset).toArray = ls at hl ⊢
  have hl : lv_has ls 2 [(0, .int x0), (1, .int x1)] := hl
  generalize hf : f_X5_lesser x0 x1 = r0
  unfold f_X5_lesser at hf
  refine lv_iload_n hx hb dX5_lesser_0 rfl (lv_at hl 0 rfl) ?_
  refine lv_iconst (v := (-1)) hx hb dX5_lesser_1 (by decide) ?_
  refine lv_icmp_eq (tgt := 15) hx hb dX5_lesser_2 (by decide) (fun c_1 => ?_) (fun c_1 => ?_)
  · replace hf := (if_pos c_1).symm.trans hf
    refine lv_iload_n hx hb dX5_lesser_15 rfl (lv_at hl 1 rfl) ?_
    refine lv_goto (tgt := 20) hx hb dX5_lesser_16 (by decide) ?_
    exact W.iret (v := x1) hx hb hr (fun t ht hW => ⟨congrArg (fun z => Outcome.returned (some (.int z))) hf, ht⟩) (fun q h => absurd h List.not_mem_nil) dX5_lesser_20
  · replace hf := (if_neg c_1).symm.trans hf
    refine lv_iload_n hx hb dX5_lesser_5 rfl (lv_at hl 1 rfl) ?_
    refine lv_iconst (v := (-1)) hx hb dX5_lesser_6 (by decide) ?_
    refine lv_icmp_eq (tgt := 19) hx hb dX5_lesser_7 (by decide) (fun c_2 => ?_) (fun c_2 => ?_)
    · replace hf := (if_pos c_2).symm.trans hf
      refine lv_iload_n hx hb dX5_lesser_19 rfl (lv_at hl 0 rfl) ?_
      exact W.iret (v := x0) hx hb hr (fun t ht hW => ⟨congrArg (fun z => Outcome.returned (some (.int z))) hf, ht⟩) (fun q h => absurd h List.not_mem_nil) dX5_lesser_20
    · replace hf := (if_neg c_2).symm.trans hf
      refine lv_iload_n hx hb dX5_lesser_10 rfl (lv_at hl 1 rfl) ?_
      refine lv_iload_n hx hb dX5_lesser_11 rfl (lv_at hl 0 rfl) ?_
      refine lv_icmp_ge (tgt := 19) hx hb dX5_lesser_12 (by decide) (fun c_3 => ?_) (fun c_3 => ?_)
      · replace hf := (if_pos c_3).symm.trans hf
        refine lv_iload_n hx hb dX5_lesser_19 rfl (lv_at hl 0 rfl) ?_
        exact W.iret (v := x0) hx hb hr (fun t ht hW => ⟨congrArg (fun z => Outcome.returned (some (.int z))) hf, ht⟩) (fun q h => absurd h List.not_mem_nil) dX5_lesser_20
      · replace hf := (if_neg c_3).symm.trans hf
        refine lv_iload_n hx hb dX5_lesser_15 rfl (lv_at hl 1 rfl) ?_
        refine lv_goto (tgt := 20) hx hb dX5_lesser_16 (by decide) ?_
        exact W.iret (v := x1) hx hb hr (fun t ht hW => ⟨congrArg (fun z => Outcome.returned (some (.int z))) hf, ht⟩) (fun q h => absurd h List.not_mem_nil) dX5_lesser_20
def f_X5_isHeight  (x0 : Int32) : Int32 := (if x0 < 0 then 0 else (if 5 ≤ x0 then 0 else 1))
set_option maxHeartbeats 4000000 in
set_option maxRecDepth 100000 in
theorem c_X5_isHeight (l : Launch) (dC : Nat → ClassId) (dI : Nat → Nat → Nat) (cI cJ : ClassId)   (x0 : Int32) : Met l yX5_isHeight wsX5_isHeight ({ frames := 0, cells := 0, slots := 0, locals := 0 } : Room) (va_Pc [.int x0] (q_B (dC, dI) vwCl [] (q_ty cI cJ))) (k2_QcV (.int (f_X5_isHeight x0))) 0 0 (fun _ => False) := by
  refine Met.ofW (cc := cX5_isHeight) (maxL := 1) (ret := (some .boolean)) (by decide) rfl ?_
  intro p e s m args below meth c s₁ BB hml hv
  obtain ⟨rfl, hP, hK, hn⟩ := hv
  have hx := BB.exec
  have hb := BB.bytes
  have hr := BB.returns
  have hts := atoms_spec (ws := wsX5_isHeight) BB.pre
  have hown : s.vm.findClass RX5 = some m.cls := findClass_of_methodNamed BB.named
  have hlocks := BB.notSynchronized
  have hl := lv_entry [.int x0] (n := 1) (Nat.le_of_ble_eq_true rfl)
  rw [lg_entry_eq]
  generalize (lg_sl [.int x0] ++ List.replicate (1 - (lg_sl [.int x0]).length) Slot.unset).toArray = ls at hl ⊢
  have hl : lv_has ls 1 [(0, .int x0)] := hl
  generalize hf : f_X5_isHeight x0 = r0
  unfold f_X5_isHeight at hf
  refine lv_iload_n hx hb dX5_isHeight_0 rfl (lv_at hl 0 rfl) ?_
  refine lv_if_lt (tgt := 13) hx hb dX5_isHeight_1 (by decide) (fun c_1 => ?_) (fun c_1 => ?_)
  · replace hf := (if_pos c_1).symm.trans hf
    refine lv_iconst (v := 0) hx hb dX5_isHeight_13 (by decide) ?_
    exact W.zret (v := 0) (ty := .boolean) hx hb hr rfl (fun t ht hW => ⟨congrArg (fun z => Outcome.returned (some (.int z))) hf, ht⟩) (fun q h => absurd h List.not_mem_nil) dX5_isHeight_14
  · replace hf := (if_neg c_1).symm.trans hf
    refine lv_iload_n hx hb dX5_isHeight_4 rfl (lv_at hl 0 rfl) ?_
    refine lv_iconst (v := 5) hx hb dX5_isHeight_5 (by decide) ?_
    refine lv_icmp_ge (tgt := 13) hx hb dX5_isHeight_6 (by decide) (fun c_2 => ?_) (fun c_2 => ?_)
    · replace hf := (if_pos c_2).symm.trans hf
      refine lv_iconst (v := 0) hx hb dX5_isHeight_13 (by decide) ?_
      exact W.zret (v := 0) (ty := .boolean) hx hb hr rfl (fun t ht hW => ⟨congrArg (fun z => Outcome.returned (some (.int z))) hf, ht⟩) (fun q h => absurd h List.not_mem_nil) dX5_isHeight_14
    · replace hf := (if_neg c_2).symm.trans hf
      refine lv_iconst (v := 1) hx hb dX5_isHeight_9 (by decide) ?_
      refine lv_goto (tgt := 14) hx hb dX5_isHeight_10 (by decide) ?_
      exact W.zret (v := 1) (ty := .boolean) hx hb hr rfl (fun t ht hW => ⟨congrArg (fun z => Outcome.returned (some (.int z))) hf, ht⟩) (fun q h => absurd h List.not_mem_nil) dX5_isHeight_14
def f_X5_at (n : Nat) (f : q_IA) (x1 : Int32) : Int32 := (if x1 < 0 then 0 else (if (nI n) ≤ x1 then 0 else f x1.toNatClampNeg))
set_option maxHeartbeats 4000000 in
set_option maxRecDepth 100000 in
theorem c_X5_at (l : Launch) (dC : Nat → ClassId) (dI : Nat → Nat → Nat) (cI cJ : ClassId) (b : Nat) (n : Nat) (f : q_IA) (hN : n < 2147483648) (x1 : Int32) : Met l yX5_at wsX5_at ({ frames := 0, cells := 0, slots := 0, locals := 0 } : Room) (va_Pc [.ref b, .int x1] (q_B (dC, dI) vwCl [(b, .inl (cI, n, .inl f))] (q_ty cI cJ))) (k2_QcV (.int (f_X5_at n f x1))) 0 0 (fun _ => False) := by
  refine Met.ofW (cc := cX5_at) (maxL := 2) (ret := (some .int)) (by decide) rfl ?_
  intro p e s m args below meth c s₁ BB hml hv
  obtain ⟨rfl, hP, hK, hn⟩ := hv
  have hx := BB.exec
  have hb := BB.bytes
  have hr := BB.returns
  have hts := atoms_spec (ws := wsX5_at) BB.pre
  have hown : s.vm.findClass RX5 = some m.cls := findClass_of_methodNamed BB.named
  have hlocks := BB.notSynchronized
  have hl := lv_entry [.ref b, .int x1] (n := 2) (Nat.le_of_ble_eq_true rfl)
  rw [lg_entry_eq]
  generalize (lg_sl [.ref b, .int x1] ++ List.replicate (2 - (lg_sl [.ref b, .int x1]).length) Slot.unset).toArray = ls at hl ⊢
  have hl : lv_has ls 2 [(0, .ref b), (1, .int x1)] := hl
  generalize hf : f_X5_at n f x1 = r0
  unfold f_X5_at at hf
  refine lv_iload_n hx hb dX5_at_0 rfl (lv_at hl 1 rfl) ?_
  refine lv_if_lt (tgt := 16) hx hb dX5_at_1 (by decide) (fun c_1 => ?_) (fun c_1 => ?_)
  · replace hf := (if_pos c_1).symm.trans hf
    refine lv_iconst (v := 0) hx hb dX5_at_16 (by decide) ?_
    exact W.iret (v := 0) hx hb hr (fun t ht hW => ⟨congrArg (fun z => Outcome.returned (some (.int z))) hf, ht⟩) (fun q h => absurd h List.not_mem_nil) dX5_at_17
  · replace hf := (if_neg c_1).symm.trans hf
    refine lv_iload_n hx hb dX5_at_4 rfl (lv_at hl 1 rfl) ?_
    refine lv_aload_n hx hb dX5_at_5 rfl (lv_at hl 0 rfl) ?_
    refine va_alen (v := nI n) hx hb hK hP 0 0 rfl rfl rfl dX5_at_6 ?_
    refine lv_icmp_ge (tgt := 16) hx hb dX5_at_7 (by decide) (fun c_2 => ?_) (fun c_2 => ?_)
    · replace hf := (if_pos c_2).symm.trans hf
      refine lv_iconst (v := 0) hx hb dX5_at_16 (by decide) ?_
      exact W.iret (v := 0) hx hb hr (fun t ht hW => ⟨congrArg (fun z => Outcome.returned (some (.int z))) hf, ht⟩) (fun q h => absurd h List.not_mem_nil) dX5_at_17
    · replace hf := (if_neg c_2).symm.trans hf
      refine lv_aload_n hx hb dX5_at_10 rfl (lv_at hl 0 rfl) ?_
      refine lv_iload_n hx hb dX5_at_11 rfl (lv_at hl 1 rfl) ?_
      refine va_iald hx hb hK hP 0 0 rfl rfl (q_in c_1 c_2 hN) dX5_at_12 ?_
      refine lv_goto (tgt := 17) hx hb dX5_at_13 (by decide) ?_
      exact W.iret (v := f x1.toNatClampNeg) hx hb hr (fun t ht hW => ⟨congrArg (fun z => Outcome.returned (some (.int z))) hf, ht⟩) (fun q h => absurd h List.not_mem_nil) dX5_at_17
def f_X0_faceOf (B : q_Bd) (x0 : Int32) (x1 : Int32) : Int32 := (if (lg_cmp (B.2.2.2.1 &&& (f_X5_dotIn x0 x1)) 0) = 0 then 0 else 1)
set_option maxHeartbeats 4000000 in
set_option maxRecDepth 100000 in
theorem c_X0_faceOf (l : Launch) (dC : Nat → ClassId) (dI : Nat → Nat → Nat) (cI cJ : ClassId) (b0 : Nat) (b1 : Nat) (b2 : Nat) (B : q_Bd) (x0 : Int32) (x1 : Int32) : Met l yX0_faceOf wsX0_faceOf ({ frames := 2, cells := 0, slots := 0, locals := 42 } : Room) (va_Pc [.ref b0, .int x0, .int x1] (q_B (dC, dI) vwCl (wBd b0 b1 b2 cI B) (q_ty cI cJ))) (k2_QcV (.int (f_X0_faceOf B x0 x1))) 0 0 (fun _ => False) := by
  refine Met.ofW (cc := cX0_faceOf) (maxL := 3) (ret := (some .int)) (by decide) rfl ?_
  intro p e s m args below meth c s₁ BB hml hv
  obtain ⟨rfl, hP, hK, hn⟩ := hv
  have hx := BB.exec
  have hb := BB.bytes
  have hr := BB.returns
  have hts := atoms_spec (ws := wsX0_faceOf) BB.pre
  have hown : s.vm.findClass RX0 = some m.cls := findClass_of_methodNamed BB.named
  have hlocks := BB.notSynchronized
  have hi0 : ∀ w ∈ u_ws RX0 TX0 6, w ∈ wsX0_faceOf := by decide +kernel
  have hl := lv_entry [.ref b0, .int x0, .int x1] (n := 3) (Nat.le_of_ble_eq_true rfl)
  rw [lg_entry_eq]
  generalize (lg_sl [.ref b0, .int x0, .int x1] ++ List.replicate (3 - (lg_sl [.ref b0, .int x0, .int x1]).length) Slot.unset).toArray = ls at hl ⊢
  have hl : lv_has ls 3 [(0, .ref b0), (1, .int x0), (2, .int x1)] := hl
  generalize hf : f_X0_faceOf B x0 x1 = r0
  unfold f_X0_faceOf at hf
  refine lv_aload_n hx hb dX0_faceOf_0 rfl (lv_at hl 0 rfl) ?_
  refine va_get (D := (dC, dI)) (ci := 0) (v := .long B.2.2.2.1) (C := RX0) (T := TX0) (N := 6) hx hb hts hi0 hown hK hP 0 rfl rfl 3 (by decide) (hts (.fieldLink RX0 22 RX0 "picture" "J") (by decide +kernel)) (fun _ h9 => h9) rfl dX0_faceOf_1 ?_
  refine lv_iload_n hx hb dX0_faceOf_4 rfl (lv_at hl 1 rfl) ?_
  refine lv_iload_n hx hb dX0_faceOf_5 rfl (lv_at hl 2 rfl) ?_
  refine q_rSN (As := [.int x0, .int x1]) (rest := [.long B.2.2.2.1]) ⟨hx, hb, hml, hown, hts⟩ (c_X5_dotIn l dC dI cI cJ x0 x1) ⟨va_cnB 2 hts gX0_faceOf_X5_dotIn_n32 rfl rfl rfl (nm_RX0_32 hn) (hts (.initialized RX5) (by decide +kernel)) (by decide +kernel) ⟨Nat.le_of_ble_eq_true rfl, Nat.le_of_ble_eq_true rfl⟩, hts (.static yX5_dotIn) (by decide +kernel), trivial⟩ hK hn (hP.sub (ws' := []) [] rfl) rfl hl.1 rfl (Nat.le_of_ble_eq_true rfl) dX0_faceOf_6 ⟨Nat.zero_le _, Nat.zero_le _⟩ ?_
  refine lv_land hx hb dX0_faceOf_9 ?_
  refine lv_lconst (v := 0) hx hb dX0_faceOf_10 (by decide) ?_
  refine W.lcmp hx hb dX0_faceOf_11 ?_
  refine lv_if_ne (tgt := 19) hx hb dX0_faceOf_12 (by decide) (fun c_1 => ?_) (fun c_1 => ?_)
  · replace hf := (if_neg c_1).symm.trans hf
    refine lv_iconst (v := 1) hx hb dX0_faceOf_19 (by decide) ?_
    exact W.iret (v := 1) hx hb hr (fun t ht hW => ⟨congrArg (fun z => Outcome.returned (some (.int z))) hf, ht⟩) (fun q h => absurd h List.not_mem_nil) dX0_faceOf_20
  · replace hf := (if_pos c_1).symm.trans hf
    refine lv_iconst (v := 0) hx hb dX0_faceOf_15 (by decide) ?_
    refine lv_goto (tgt := 20) hx hb dX0_faceOf_16 (by decide) ?_
    exact W.iret (v := 0) hx hb hr (fun t ht hW => ⟨congrArg (fun z => Outcome.returned (some (.int z))) hf, ht⟩) (fun q h => absurd h List.not_mem_nil) dX0_faceOf_20
def f_X1_placed (K : q_Bk) (x0 : Int32) (x1 : Int32) : Int64 := (if x0 < 0 then 0 else (if (nI 8) ≤ x0 then 0 else (K.2.2.2.2.1 x0.toNatClampNeg) <<< ((5 * x1).toInt64 &&& 63)))
set_option maxHeartbeats 4000000 in
set_option maxRecDepth 100000 in
theorem c_X1_placed (l : Launch) (dC : Nat → ClassId) (dI : Nat → Nat → Nat) (cI cJ : ClassId) (k0 : Nat) (k1 : Nat) (k2 : Nat) (k3 : Nat) (k4 : Nat) (k5 : Nat) (K : q_Bk) (x0 : Int32) (x1 : Int32) : Met l yX1_placed wsX1_placed ({ frames := 0, cells := 0, slots := 0, locals := 0 } : Room) (va_Pc [.ref k0, .int x0, .int x1] (q_B (dC, dI) vwCl (wBk k0 k1 k2 k3 k4 k5 cI cJ K) (q_ty cI cJ))) (k2_QcV (.long (f_X1_placed K x0 x1))) 0 0 (fun _ => False) := by
  refine Met.ofW (cc := cX1_placed) (maxL := 3) (ret := (some .long)) (by decide) rfl ?_
  intro p e s m args below meth c s₁ BB hml hv
  obtain ⟨rfl, hP, hK, hn⟩ := hv
  have hx := BB.exec
  have hb := BB.bytes
  have hr := BB.returns
  have hts := atoms_spec (ws := wsX1_placed) BB.pre
  have hown : s.vm.findClass RX1 = some m.cls := findClass_of_methodNamed BB.named
  have hlocks := BB.notSynchronized
  have hi1 : ∀ w ∈ u_ws RX1 TX1 7, w ∈ wsX1_placed := by decide +kernel
  have hl := lv_entry [.ref k0, .int x0, .int x1] (n := 3) (Nat.le_of_ble_eq_true rfl)
  rw [lg_entry_eq]
  generalize (lg_sl [.ref k0, .int x0, .int x1] ++ List.replicate (3 - (lg_sl [.ref k0, .int x0, .int x1]).length) Slot.unset).toArray = ls at hl ⊢
  have hl : lv_has ls 3 [(0, .ref k0), (1, .int x0), (2, .int x1)] := hl
  generalize hf : f_X1_placed K x0 x1 = r0
  unfold f_X1_placed at hf
  refine lv_iload_n hx hb dX1_placed_0 rfl (lv_at hl 1 rfl) ?_
  refine lv_if_lt (tgt := 26) hx hb dX1_placed_1 (by decide) (fun c_1 => ?_) (fun c_1 => ?_)
  · replace hf := (if_pos c_1).symm.trans hf
    refine lv_lconst (v := 0) hx hb dX1_placed_26 (by decide) ?_
    exact W.lret (v := 0) hx hb hr (fun t ht hW => ⟨congrArg (fun z => Outcome.returned (some (.long z))) hf, ht⟩) (fun q h => absurd h List.not_mem_nil) dX1_placed_27
  · replace hf := (if_neg c_1).symm.trans hf
    refine lv_iload_n hx hb dX1_placed_4 rfl (lv_at hl 1 rfl) ?_
    refine lv_aload_n hx hb dX1_placed_5 rfl (lv_at hl 0 rfl) ?_
    refine va_get (D := (dC, dI)) (ci := 1) (v := .ref k5) (C := RX1) (T := TX1) (N := 7) hx hb hts hi1 hown hK hP 0 rfl rfl 4 (by decide) (hts (.fieldLink RX1 24 RX1 "forms" "[J") (by decide +kernel)) (fun _ h9 => h9) rfl dX1_placed_6 ?_
    refine va_alen (v := nI 8) hx hb hK hP 5 1 rfl rfl rfl dX1_placed_9 ?_
    refine lv_icmp_ge (tgt := 26) hx hb dX1_placed_10 (by decide) (fun c_2 => ?_) (fun c_2 => ?_)
    · replace hf := (if_pos c_2).symm.trans hf
      refine lv_lconst (v := 0) hx hb dX1_placed_26 (by decide) ?_
      exact W.lret (v := 0) hx hb hr (fun t ht hW => ⟨congrArg (fun z => Outcome.returned (some (.long z))) hf, ht⟩) (fun q h => absurd h List.not_mem_nil) dX1_placed_27
    · replace hf := (if_neg c_2).symm.trans hf
      refine lv_aload_n hx hb dX1_placed_13 rfl (lv_at hl 0 rfl) ?_
      refine va_get (D := (dC, dI)) (ci := 1) (v := .ref k5) (C := RX1) (T := TX1) (N := 7) hx hb hts hi1 hown hK hP 0 rfl rfl 4 (by decide) (hts (.fieldLink RX1 24 RX1 "forms" "[J") (by decide +kernel)) (fun _ h9 => h9) rfl dX1_placed_14 ?_
      refine lv_iload_n hx hb dX1_placed_17 rfl (lv_at hl 1 rfl) ?_
      refine va_lald hx hb hK hP 5 1 rfl rfl (q_in c_1 c_2 (by decide)) dX1_placed_18 ?_
      refine lv_iconst (v := 5) hx hb dX1_placed_19 (by decide) ?_
      refine lv_iload_n hx hb dX1_placed_20 rfl (lv_at hl 2 rfl) ?_
      refine lv_imul hx hb dX1_placed_21 ?_
      refine lv_lshl (v := (K.2.2.2.2.1 x0.toNatClampNeg) <<< ((5 * x1).toInt64 &&& 63)) hx hb dX1_placed_22 rfl ?_
      refine lv_goto (tgt := 27) hx hb dX1_placed_23 (by decide) ?_
      exact W.lret (v := (K.2.2.2.2.1 x0.toNatClampNeg) <<< ((5 * x1).toInt64 &&& 63)) hx hb hr (fun t ht hW => ⟨congrArg (fun z => Outcome.returned (some (.long z))) hf, ht⟩) (fun q h => absurd h List.not_mem_nil) dX1_placed_27
def f_X0_withStuck (B : q_Bd) (x0 : Int64) : Int64 := (x0 &&& (B.2.2.2.2.1 ^^^ (-1))) ||| B.2.2.2.2.2
set_option maxHeartbeats 4000000 in
set_option maxRecDepth 100000 in
theorem c_X0_withStuck (l : Launch) (dC : Nat → ClassId) (dI : Nat → Nat → Nat) (cI cJ : ClassId) (b0 : Nat) (b1 : Nat) (b2 : Nat) (B : q_Bd) (x0 : Int64) : Met l yX0_withStuck wsX0_withStuck ({ frames := 0, cells := 0, slots := 0, locals := 0 } : Room) (va_Pc [.ref b0, .long x0] (q_B (dC, dI) vwCl (wBd b0 b1 b2 cI B) (q_ty cI cJ))) (k2_QcV (.long (f_X0_withStuck B x0))) 0 0 (fun _ => False) := by
  refine Met.ofW (cc := cX0_withStuck) (maxL := 3) (ret := (some .long)) (by decide) rfl ?_
  intro p e s m args below meth c s₁ BB hml hv
  obtain ⟨rfl, hP, hK, hn⟩ := hv
  have hx := BB.exec
  have hb := BB.bytes
  have hr := BB.returns
  have hts := atoms_spec (ws := wsX0_withStuck) BB.pre
  have hown : s.vm.findClass RX0 = some m.cls := findClass_of_methodNamed BB.named
  have hlocks := BB.notSynchronized
  have hi0 : ∀ w ∈ u_ws RX0 TX0 6, w ∈ wsX0_withStuck := by decide +kernel
  have hl := lv_entry [.ref b0, .long x0] (n := 3) (Nat.le_of_ble_eq_true rfl)
  rw [lg_entry_eq]
  generalize (lg_sl [.ref b0, .long x0] ++ List.replicate (3 - (lg_sl [.ref b0, .long x0]).length) Slot.unset).toArray = ls at hl ⊢
  have hl : lv_has ls 3 [(0, .ref b0), (1, .long x0)] := hl
  generalize hf : f_X0_withStuck B x0 = r0
  unfold f_X0_withStuck at hf
  refine lv_lload_n hx hb dX0_withStuck_0 rfl (lv_at hl 1 rfl) ?_
  refine lv_aload_n hx hb dX0_withStuck_1 rfl (lv_at hl 0 rfl) ?_
  refine va_get (D := (dC, dI)) (ci := 0) (v := .long B.2.2.2.2.1) (C := RX0) (T := TX0) (N := 6) hx hb hts hi0 hown hK hP 0 rfl rfl 4 (by decide) (hts (.fieldLink RX0 26 RX0 "stuck" "J") (by decide +kernel)) (fun _ h9 => h9) rfl dX0_withStuck_2 ?_
  refine lv_ldc2 hx hb hown (hts (.constantLong RX0 36 (-1)) (by decide +kernel)) dX0_withStuck_5 ?_
  refine lv_lxor hx hb dX0_withStuck_8 ?_
  refine lv_land hx hb dX0_withStuck_9 ?_
  refine lv_aload_n hx hb dX0_withStuck_10 rfl (lv_at hl 0 rfl) ?_
  refine va_get (D := (dC, dI)) (ci := 0) (v := .long B.2.2.2.2.2) (C := RX0) (T := TX0) (N := 6) hx hb hts hi0 hown hK hP 0 rfl rfl 5 (by decide) (hts (.fieldLink RX0 29 RX0 "stuckBright" "J") (by decide +kernel)) (fun _ h9 => h9) rfl dX0_withStuck_11 ?_
  refine lv_lor hx hb dX0_withStuck_14 ?_
  exact W.lret (v := (x0 &&& (B.2.2.2.2.1 ^^^ (-1))) ||| B.2.2.2.2.2) hx hb hr (fun t ht hW => ⟨congrArg (fun z => Outcome.returned (some (.long z))) hf, ht⟩) (fun q h => absurd h List.not_mem_nil) dX0_withStuck_15
def fl_X0_flipsIn_4 (x0 : Int32) (B : q_Bd) : Nat → Int32 → Int32 → Option (Int32 × Int32)
  | 0, _, _ => none
  | nn + 1, i2_4, i3_4 => (if 5 ≤ i3_4 then some (i2_4, i3_4) else fl_X0_flipsIn_4 x0 B nn (i2_4 + (f_X5_at 40 B.1 (f_X5_bitOf x0 i3_4))) (i3_4 + 1))
def f_X0_flipsIn (B : q_Bd) (x0 : Int32) : Option (Int32) := ((fl_X0_flipsIn_4 x0 B 1000 0 0).bind fun z_2 => some z_2.1)
set_option maxHeartbeats 4000000 in
set_option maxRecDepth 100000 in
theorem c_X0_flipsIn (l : Launch) (dC : Nat → ClassId) (dI : Nat → Nat → Nat) (cI cJ : ClassId) (b0 : Nat) (b1 : Nat) (b2 : Nat) (B : q_Bd) (x0 : Int32) (r0 : Int32) (hf : f_X0_flipsIn B x0 = some r0) : Met l yX0_flipsIn wsX0_flipsIn ({ frames := 1, cells := 0, slots := 0, locals := 21 } : Room) (va_Pc [.ref b0, .int x0] (q_B (dC, dI) vwCl (wBd b0 b1 b2 cI B) (q_ty cI cJ))) (k2_QcV (.int r0)) 0 0 (fun _ => False) := by
  refine Met.ofW (cc := cX0_flipsIn) (maxL := 4) (ret := (some .int)) (by decide) rfl ?_
  intro p e s m args below meth c s₁ BB hml hv
  obtain ⟨rfl, hP, hK, hn⟩ := hv
  have hx := BB.exec
  have hb := BB.bytes
  have hr := BB.returns
  have hts := atoms_spec (ws := wsX0_flipsIn) BB.pre
  have hown : s.vm.findClass RX0 = some m.cls := findClass_of_methodNamed BB.named
  have hlocks := BB.notSynchronized
  have hi0 : ∀ w ∈ u_ws RX0 TX0 6, w ∈ wsX0_flipsIn := by decide +kernel
  have hl := lv_entry [.ref b0, .int x0] (n := 4) (Nat.le_of_ble_eq_true rfl)
  rw [lg_entry_eq]
  generalize (lg_sl [.ref b0, .int x0] ++ List.replicate (4 - (lg_sl [.ref b0, .int x0]).length) Slot.unset).toArray = ls at hl ⊢
  have hl : lv_has ls 4 [(0, .ref b0), (1, .int x0)] := hl
  unfold f_X0_flipsIn at hf
  refine lv_iconst (v := 0) hx hb dX0_flipsIn_0 (by decide) ?_
  refine lv_istore_n (lv' := [(2, .int 0), (0, .ref b0), (1, .int x0)]) hx hb dX0_flipsIn_1 rfl hl (by decide) rfl (fun ls hl => ?_)
  refine lv_iconst (v := 0) hx hb dX0_flipsIn_2 (by decide) ?_
  refine lv_istore_n (lv' := [(3, .int 0), (2, .int 0), (0, .ref b0), (1, .int x0)]) hx hb dX0_flipsIn_3 rfl hl (by decide) rfl (fun ls hl => ?_)
  have L_4 : ∀ (nn : Nat) (i2_4 : Int32) (i3_4 : Int32) (ls : Array Slot) (z_4 : (Int32 × Int32)), lv_has ls 4 [(3, .int i3_4), (2, .int i2_4), (0, .ref b0), (1, .int x0)] → fl_X0_flipsIn_4 x0 B nn i2_4 i3_4 = some z_4 → (∀ (ls : Array Slot), lv_has ls 4 [(3, .int z_4.2), (2, .int z_4.1), (0, .ref b0), (1, .int x0)] → W p l e (headSpec wsX0_flipsIn ({ frames := 1, cells := 0, slots := 0, locals := 21 } : Room)).room s m [.ref b0, .int x0].toArray below meth c s.heap [] 0 0 (MQ below (k2_QcV (.int r0)) [.ref b0, .int x0].toArray s 0 0 (fun _ => False)) (F0 m 30 ls [])) → W p l e (headSpec wsX0_flipsIn ({ frames := 1, cells := 0, slots := 0, locals := 21 } : Room)).room s m [.ref b0, .int x0].toArray below meth c s.heap [] 0 0 (MQ below (k2_QcV (.int r0)) [.ref b0, .int x0].toArray s 0 0 (fun _ => False)) (F0 m 4 ls []) := by
    intro nn
    induction nn with
    | zero =>
      intro i2_4 i3_4  ls z_4 hl hf hex_4
      rw [fl_X0_flipsIn_4] at hf
      cases hf
    | succ nn ih =>
      intro i2_4 i3_4  ls z_4 hl hf hex_4
      rw [fl_X0_flipsIn_4] at hf
      refine lv_iload_n hx hb dX0_flipsIn_4 rfl (lv_at hl 0 rfl) ?_
      refine lv_iconst (v := 5) hx hb dX0_flipsIn_5 (by decide) ?_
      refine lv_icmp_ge (tgt := 30) hx hb dX0_flipsIn_6 (by decide) (fun c_1 => ?_) (fun c_1 => ?_)
      · replace hf := (if_pos c_1).symm.trans hf
        replace hf := Option.some.inj hf
        subst hf
        exact hex_4 ls (lv_sub hl [0, 1, 2, 3] rfl)
      · replace hf := (if_neg c_1).symm.trans hf
        refine lv_iload_n hx hb dX0_flipsIn_9 rfl (lv_at hl 1 rfl) ?_
        refine lv_aload_n hx hb dX0_flipsIn_10 rfl (lv_at hl 2 rfl) ?_
        refine va_get (D := (dC, dI)) (ci := 0) (v := .ref b1) (C := RX0) (T := TX0) (N := 6) hx hb hts hi0 hown hK hP 0 rfl rfl 0 (by decide) (hts (.fieldLink RX0 9 RX0 "flips" "[I") (by decide +kernel)) (fun _ h9 => h9) rfl dX0_flipsIn_11 ?_
        refine lv_iload_n hx hb dX0_flipsIn_14 rfl (lv_at hl 3 rfl) ?_
        refine lv_iload_n hx hb dX0_flipsIn_15 rfl (lv_at hl 0 rfl) ?_
        refine q_rSN (As := [.int x0, .int i3_4]) (rest := [.ref b1, .int i2_4]) ⟨hx, hb, hml, hown, hts⟩ (c_X5_bitOf l dC dI cI cJ x0 i3_4) ⟨va_cnB 2 hts gX0_flipsIn_X5_bitOf_n44 rfl rfl rfl (nm_RX0_44 hn) (hts (.initialized RX5) (by decide +kernel)) (by decide +kernel) ⟨Nat.le_of_ble_eq_true rfl, Nat.le_of_ble_eq_true rfl⟩, hts (.static yX5_bitOf) (by decide +kernel), trivial⟩ hK hn (hP.sub (ws' := []) [] rfl) rfl hl.1 rfl (Nat.le_of_ble_eq_true rfl) dX0_flipsIn_16 ⟨Nat.zero_le _, Nat.zero_le _⟩ ?_
        refine q_rSN (As := [.ref b1, .int (f_X5_bitOf x0 i3_4)]) (rest := [.int i2_4]) ⟨hx, hb, hml, hown, hts⟩ (c_X5_at l dC dI cI cJ b1 40 B.1 (by decide) (f_X5_bitOf x0 i3_4)) ⟨va_cnB 2 hts gX0_flipsIn_X5_at_n52 rfl rfl rfl (nm_RX0_52 hn) (hts (.initialized RX5) (by decide +kernel)) (by decide +kernel) ⟨Nat.le_of_ble_eq_true rfl, Nat.le_of_ble_eq_true rfl⟩, hts (.static yX5_at) (by decide +kernel), trivial⟩ hK hn (hP.sub (ws' := [(b1, .inl (cI, 40, .inl B.1))]) [1] rfl) rfl hl.1 rfl (Nat.le_of_ble_eq_true rfl) dX0_flipsIn_19 ⟨Nat.zero_le _, Nat.zero_le _⟩ ?_
        refine lv_iadd hx hb dX0_flipsIn_22 ?_
        refine lv_istore_n (lv' := [(2, .int (i2_4 + (f_X5_at 40 B.1 (f_X5_bitOf x0 i3_4)))), (3, .int i3_4), (0, .ref b0), (1, .int x0)]) hx hb dX0_flipsIn_23 rfl hl (by decide) rfl (fun ls hl => ?_)
        refine lv_iinc (v := i3_4 + 1) (lv' := [(3, .int (i3_4 + 1)), (2, .int (i2_4 + (f_X5_at 40 B.1 (f_X5_bitOf x0 i3_4)))), (0, .ref b0), (1, .int x0)]) hx hb dX0_flipsIn_24 hl (k := 1) rfl rfl (by decide) rfl (fun ls hl => ?_)
        refine lv_goto (tgt := 4) hx hb dX0_flipsIn_27 (by decide) ?_
        exact ih (i2_4 + (f_X5_at 40 B.1 (f_X5_bitOf x0 i3_4))) (i3_4 + 1) ls _ (lv_sub hl [0, 1, 2, 3] rfl) hf hex_4
  obtain ⟨z_2, hz_2, hf⟩ := Option.bind_eq_some_iff.mp hf
  refine L_4 1000 0 0 ls z_2 (lv_sub hl [0, 1, 2, 3] rfl) hz_2 (fun ls hl => ?_)
  refine lv_iload_n hx hb dX0_flipsIn_30 rfl (lv_at hl 1 rfl) ?_
  replace hf := Option.some.inj hf
  exact W.iret (v := z_2.1) hx hb hr (fun t ht hW => ⟨congrArg (fun z => Outcome.returned (some (.int z))) hf, ht⟩) (fun q h => absurd h List.not_mem_nil) dX0_flipsIn_31
end
