section
-- ===== PART A: goes FIRST, ahead of the names: the tables' words, and 'selects' of the private methods out of them =====
/-- a private method of a class that the tables say can be made, by its rows of tables_1 -/
def lw_okq (q : MethodName × Nat) : Prop := (q.1.cls ≠ "java/lang/invoke/MethodHandle" ∧ q.1.cls ≠ "java/lang/invoke/VarHandle") ∧ Cond.instantiable q.1.cls q.2 ∈ tables_1 ∧ Cond.privateMethod q.1 ∈ tables_1 ∧ Cond.instanceMethod q.1 ∈ tables_1
theorem lw_p0 : lw_okq (⟨"NeitherBare", "make", "(LNeitherBare$Shelf;II)I"⟩, 13) := ⟨⟨by decide +kernel, by decide +kernel⟩, List.mem_of_getElem? (i := 11) (by decide +kernel), List.mem_of_getElem? (i := 160) (by decide +kernel), List.mem_of_getElem? (i := 161) (by decide +kernel)⟩
theorem lw_p1 : lw_okq (⟨"NeitherBare", "refuse", "(I)I"⟩, 13) := ⟨⟨by decide +kernel, by decide +kernel⟩, List.mem_of_getElem? (i := 11) (by decide +kernel), List.mem_of_getElem? (i := 168) (by decide +kernel), List.mem_of_getElem? (i := 169) (by decide +kernel)⟩
theorem lw_p2 : lw_okq (⟨"NeitherBare", "refusedCell", "(LNeitherBare$Shelf;II)I"⟩, 13) := ⟨⟨by decide +kernel, by decide +kernel⟩, List.mem_of_getElem? (i := 11) (by decide +kernel), List.mem_of_getElem? (i := 186) (by decide +kernel), List.mem_of_getElem? (i := 187) (by decide +kernel)⟩
theorem lw_p3 : lw_okq (⟨"NeitherBare", "refusedPlace", "(LNeitherBare$Shelf;I)I"⟩, 13) := ⟨⟨by decide +kernel, by decide +kernel⟩, List.mem_of_getElem? (i := 11) (by decide +kernel), List.mem_of_getElem? (i := 190) (by decide +kernel), List.mem_of_getElem? (i := 191) (by decide +kernel)⟩
theorem lw_p4 : lw_okq (⟨"NeitherBare$Court", "takesFigure", "(I)Z"⟩, 8) := ⟨⟨by decide +kernel, by decide +kernel⟩, List.mem_of_getElem? (i := 46) (by decide +kernel), List.mem_of_getElem? (i := 259) (by decide +kernel), List.mem_of_getElem? (i := 260) (by decide +kernel)⟩
theorem lw_p5 : lw_okq (⟨"NeitherBare$Court", "takesGift", "(I)Z"⟩, 8) := ⟨⟨by decide +kernel, by decide +kernel⟩, List.mem_of_getElem? (i := 46) (by decide +kernel), List.mem_of_getElem? (i := 263) (by decide +kernel), List.mem_of_getElem? (i := 264) (by decide +kernel)⟩
theorem lw_p6 : lw_okq (⟨"NeitherBare$Court", "takesTrait", "(I)Z"⟩, 8) := ⟨⟨by decide +kernel, by decide +kernel⟩, List.mem_of_getElem? (i := 46) (by decide +kernel), List.mem_of_getElem? (i := 267) (by decide +kernel), List.mem_of_getElem? (i := 268) (by decide +kernel)⟩
theorem lw_p7 : lw_okq (⟨"NeitherBare$Court", "beginsItem", "(I)Z"⟩, 8) := ⟨⟨by decide +kernel, by decide +kernel⟩, List.mem_of_getElem? (i := 46) (by decide +kernel), List.mem_of_getElem? (i := 279) (by decide +kernel), List.mem_of_getElem? (i := 280) (by decide +kernel)⟩
theorem lw_p8 : lw_okq (⟨"NeitherBare$Court", "beginsThing", "()Z"⟩, 8) := ⟨⟨by decide +kernel, by decide +kernel⟩, List.mem_of_getElem? (i := 46) (by decide +kernel), List.mem_of_getElem? (i := 283) (by decide +kernel), List.mem_of_getElem? (i := 284) (by decide +kernel)⟩
theorem lw_p9 : lw_okq (⟨"NeitherBare$Court", "beginsClause", "(I)Z"⟩, 8) := ⟨⟨by decide +kernel, by decide +kernel⟩, List.mem_of_getElem? (i := 46) (by decide +kernel), List.mem_of_getElem? (i := 287) (by decide +kernel), List.mem_of_getElem? (i := 288) (by decide +kernel)⟩
theorem lw_p10 : lw_okq (⟨"NeitherBare", "isClause", "(I)Z"⟩, 13) := ⟨⟨by decide +kernel, by decide +kernel⟩, List.mem_of_getElem? (i := 11) (by decide +kernel), List.mem_of_getElem? (i := 321) (by decide +kernel), List.mem_of_getElem? (i := 322) (by decide +kernel)⟩
theorem lw_p11 : lw_okq (⟨"NeitherBare", "clauseNumber", "(II)I"⟩, 13) := ⟨⟨by decide +kernel, by decide +kernel⟩, List.mem_of_getElem? (i := 11) (by decide +kernel), List.mem_of_getElem? (i := 325) (by decide +kernel), List.mem_of_getElem? (i := 326) (by decide +kernel)⟩
theorem lw_p12 : lw_okq (⟨"NeitherBare", "waysHeld", "(II)I"⟩, 13) := ⟨⟨by decide +kernel, by decide +kernel⟩, List.mem_of_getElem? (i := 11) (by decide +kernel), List.mem_of_getElem? (i := 336) (by decide +kernel), List.mem_of_getElem? (i := 337) (by decide +kernel)⟩
theorem lw_p13 : lw_okq (⟨"NeitherBare$Court", "isSecondMuch", "(II[I)Z"⟩, 8) := ⟨⟨by decide +kernel, by decide +kernel⟩, List.mem_of_getElem? (i := 46) (by decide +kernel), List.mem_of_getElem? (i := 352) (by decide +kernel), List.mem_of_getElem? (i := 353) (by decide +kernel)⟩
theorem lw_p14 : lw_okq (⟨"NeitherBare$Court", "isSecondLittle", "(II[I)Z"⟩, 8) := ⟨⟨by decide +kernel, by decide +kernel⟩, List.mem_of_getElem? (i := 46) (by decide +kernel), List.mem_of_getElem? (i := 360) (by decide +kernel), List.mem_of_getElem? (i := 361) (by decide +kernel)⟩
theorem lw_p15 : lw_okq (⟨"NeitherBare", "makersOf", "(I)I"⟩, 13) := ⟨⟨by decide +kernel, by decide +kernel⟩, List.mem_of_getElem? (i := 11) (by decide +kernel), List.mem_of_getElem? (i := 381) (by decide +kernel), List.mem_of_getElem? (i := 382) (by decide +kernel)⟩
def lw_privs_1 : List (MethodName × Nat) := [(⟨"NeitherBare", "make", "(LNeitherBare$Shelf;II)I"⟩, 13), (⟨"NeitherBare", "refuse", "(I)I"⟩, 13), (⟨"NeitherBare", "refusedCell", "(LNeitherBare$Shelf;II)I"⟩, 13), (⟨"NeitherBare", "refusedPlace", "(LNeitherBare$Shelf;I)I"⟩, 13), (⟨"NeitherBare$Court", "takesFigure", "(I)Z"⟩, 8), (⟨"NeitherBare$Court", "takesGift", "(I)Z"⟩, 8), (⟨"NeitherBare$Court", "takesTrait", "(I)Z"⟩, 8), (⟨"NeitherBare$Court", "beginsItem", "(I)Z"⟩, 8), (⟨"NeitherBare$Court", "beginsThing", "()Z"⟩, 8), (⟨"NeitherBare$Court", "beginsClause", "(I)Z"⟩, 8), (⟨"NeitherBare", "isClause", "(I)Z"⟩, 13), (⟨"NeitherBare", "clauseNumber", "(II)I"⟩, 13), (⟨"NeitherBare", "waysHeld", "(II)I"⟩, 13), (⟨"NeitherBare$Court", "isSecondMuch", "(II[I)Z"⟩, 8), (⟨"NeitherBare$Court", "isSecondLittle", "(II[I)Z"⟩, 8), (⟨"NeitherBare", "makersOf", "(I)I"⟩, 13)]
theorem lw_r1 : ∀ q ∈ lw_privs_1, lw_okq q := List.forall_mem_cons.mpr ⟨lw_p0, List.forall_mem_cons.mpr ⟨lw_p1, List.forall_mem_cons.mpr ⟨lw_p2, List.forall_mem_cons.mpr ⟨lw_p3, List.forall_mem_cons.mpr ⟨lw_p4, List.forall_mem_cons.mpr ⟨lw_p5, List.forall_mem_cons.mpr ⟨lw_p6, List.forall_mem_cons.mpr ⟨lw_p7, List.forall_mem_cons.mpr ⟨lw_p8, List.forall_mem_cons.mpr ⟨lw_p9, List.forall_mem_cons.mpr ⟨lw_p10, List.forall_mem_cons.mpr ⟨lw_p11, List.forall_mem_cons.mpr ⟨lw_p12, List.forall_mem_cons.mpr ⟨lw_p13, List.forall_mem_cons.mpr ⟨lw_p14, List.forall_mem_cons.mpr ⟨lw_p15, fun _ h => absurd h List.not_mem_nil⟩⟩⟩⟩⟩⟩⟩⟩⟩⟩⟩⟩⟩⟩⟩⟩
theorem lw_p16 : lw_okq (⟨"NeitherBare", "halfOf", "(I)I"⟩, 13) := ⟨⟨by decide +kernel, by decide +kernel⟩, List.mem_of_getElem? (i := 11) (by decide +kernel), List.mem_of_getElem? (i := 386) (by decide +kernel), List.mem_of_getElem? (i := 387) (by decide +kernel)⟩
theorem lw_p17 : lw_okq (⟨"NeitherBare", "littleWays", "(I)I"⟩, 13) := ⟨⟨by decide +kernel, by decide +kernel⟩, List.mem_of_getElem? (i := 11) (by decide +kernel), List.mem_of_getElem? (i := 390) (by decide +kernel), List.mem_of_getElem? (i := 391) (by decide +kernel)⟩
theorem lw_p18 : lw_okq (⟨"NeitherBare$Standing", "noteDeed", "(II)V"⟩, 6) := ⟨⟨by decide +kernel, by decide +kernel⟩, List.mem_of_getElem? (i := 83) (by decide +kernel), List.mem_of_getElem? (i := 411) (by decide +kernel), List.mem_of_getElem? (i := 412) (by decide +kernel)⟩
theorem lw_p19 : lw_okq (⟨"NeitherBare$Standing", "setClause", "(IZ)V"⟩, 6) := ⟨⟨by decide +kernel, by decide +kernel⟩, List.mem_of_getElem? (i := 83) (by decide +kernel), List.mem_of_getElem? (i := 415) (by decide +kernel), List.mem_of_getElem? (i := 416) (by decide +kernel)⟩
theorem lw_p20 : lw_okq (⟨"NeitherBare", "staysBelow", "(III)Z"⟩, 13) := ⟨⟨by decide +kernel, by decide +kernel⟩, List.mem_of_getElem? (i := 11) (by decide +kernel), List.mem_of_getElem? (i := 432) (by decide +kernel), List.mem_of_getElem? (i := 433) (by decide +kernel)⟩
theorem lw_p21 : lw_okq (⟨"NeitherBare", "judgeWays", "([I)V"⟩, 13) := ⟨⟨by decide +kernel, by decide +kernel⟩, List.mem_of_getElem? (i := 11) (by decide +kernel), List.mem_of_getElem? (i := 493) (by decide +kernel), List.mem_of_getElem? (i := 494) (by decide +kernel)⟩
theorem lw_p22 : lw_okq (⟨"NeitherBare", "cheapestBy", "(I)I"⟩, 13) := ⟨⟨by decide +kernel, by decide +kernel⟩, List.mem_of_getElem? (i := 11) (by decide +kernel), List.mem_of_getElem? (i := 501) (by decide +kernel), List.mem_of_getElem? (i := 502) (by decide +kernel)⟩
theorem lw_p23 : lw_okq (⟨"NeitherBare", "isGood", "(I)Z"⟩, 13) := ⟨⟨by decide +kernel, by decide +kernel⟩, List.mem_of_getElem? (i := 11) (by decide +kernel), List.mem_of_getElem? (i := 518) (by decide +kernel), List.mem_of_getElem? (i := 519) (by decide +kernel)⟩
theorem lw_p24 : lw_okq (⟨"NeitherBare", "isClash", "(I)Z"⟩, 13) := ⟨⟨by decide +kernel, by decide +kernel⟩, List.mem_of_getElem? (i := 11) (by decide +kernel), List.mem_of_getElem? (i := 531) (by decide +kernel), List.mem_of_getElem? (i := 532) (by decide +kernel)⟩
theorem lw_p25 : lw_okq (⟨"NeitherBare", "winningWays", "(II)J"⟩, 13) := ⟨⟨by decide +kernel, by decide +kernel⟩, List.mem_of_getElem? (i := 11) (by decide +kernel), List.mem_of_getElem? (i := 558) (by decide +kernel), List.mem_of_getElem? (i := 559) (by decide +kernel)⟩
theorem lw_p26 : lw_okq (⟨"NeitherBare", "waysMeeting", "(I)J"⟩, 13) := ⟨⟨by decide +kernel, by decide +kernel⟩, List.mem_of_getElem? (i := 11) (by decide +kernel), List.mem_of_getElem? (i := 562) (by decide +kernel), List.mem_of_getElem? (i := 563) (by decide +kernel)⟩
theorem lw_p27 : lw_okq (⟨"NeitherBare", "waysAhead", "(J)J"⟩, 13) := ⟨⟨by decide +kernel, by decide +kernel⟩, List.mem_of_getElem? (i := 11) (by decide +kernel), List.mem_of_getElem? (i := 566) (by decide +kernel), List.mem_of_getElem? (i := 567) (by decide +kernel)⟩
theorem lw_p28 : lw_okq (⟨"NeitherBare", "refusedRulings", "(I)I"⟩, 13) := ⟨⟨by decide +kernel, by decide +kernel⟩, List.mem_of_getElem? (i := 11) (by decide +kernel), List.mem_of_getElem? (i := 584) (by decide +kernel), List.mem_of_getElem? (i := 585) (by decide +kernel)⟩
theorem lw_p29 : lw_okq (⟨"NeitherBare", "isContradiction", "(III)Z"⟩, 13) := ⟨⟨by decide +kernel, by decide +kernel⟩, List.mem_of_getElem? (i := 11) (by decide +kernel), List.mem_of_getElem? (i := 591) (by decide +kernel), List.mem_of_getElem? (i := 592) (by decide +kernel)⟩
theorem lw_p30 : lw_okq (⟨"NeitherBare", "struckOfTrait", "(II)I"⟩, 13) := ⟨⟨by decide +kernel, by decide +kernel⟩, List.mem_of_getElem? (i := 11) (by decide +kernel), List.mem_of_getElem? (i := 599) (by decide +kernel), List.mem_of_getElem? (i := 600) (by decide +kernel)⟩
theorem lw_p31 : lw_okq (⟨"NeitherBare", "ruledOtherwise", "(III)I"⟩, 13) := ⟨⟨by decide +kernel, by decide +kernel⟩, List.mem_of_getElem? (i := 11) (by decide +kernel), List.mem_of_getElem? (i := 603) (by decide +kernel), List.mem_of_getElem? (i := 604) (by decide +kernel)⟩
def lw_privs_2 : List (MethodName × Nat) := [(⟨"NeitherBare", "halfOf", "(I)I"⟩, 13), (⟨"NeitherBare", "littleWays", "(I)I"⟩, 13), (⟨"NeitherBare$Standing", "noteDeed", "(II)V"⟩, 6), (⟨"NeitherBare$Standing", "setClause", "(IZ)V"⟩, 6), (⟨"NeitherBare", "staysBelow", "(III)Z"⟩, 13), (⟨"NeitherBare", "judgeWays", "([I)V"⟩, 13), (⟨"NeitherBare", "cheapestBy", "(I)I"⟩, 13), (⟨"NeitherBare", "isGood", "(I)Z"⟩, 13), (⟨"NeitherBare", "isClash", "(I)Z"⟩, 13), (⟨"NeitherBare", "winningWays", "(II)J"⟩, 13), (⟨"NeitherBare", "waysMeeting", "(I)J"⟩, 13), (⟨"NeitherBare", "waysAhead", "(J)J"⟩, 13), (⟨"NeitherBare", "refusedRulings", "(I)I"⟩, 13), (⟨"NeitherBare", "isContradiction", "(III)Z"⟩, 13), (⟨"NeitherBare", "struckOfTrait", "(II)I"⟩, 13), (⟨"NeitherBare", "ruledOtherwise", "(III)I"⟩, 13)]
theorem lw_r2 : ∀ q ∈ lw_privs_2, lw_okq q := List.forall_mem_cons.mpr ⟨lw_p16, List.forall_mem_cons.mpr ⟨lw_p17, List.forall_mem_cons.mpr ⟨lw_p18, List.forall_mem_cons.mpr ⟨lw_p19, List.forall_mem_cons.mpr ⟨lw_p20, List.forall_mem_cons.mpr ⟨lw_p21, List.forall_mem_cons.mpr ⟨lw_p22, List.forall_mem_cons.mpr ⟨lw_p23, List.forall_mem_cons.mpr ⟨lw_p24, List.forall_mem_cons.mpr ⟨lw_p25, List.forall_mem_cons.mpr ⟨lw_p26, List.forall_mem_cons.mpr ⟨lw_p27, List.forall_mem_cons.mpr ⟨lw_p28, List.forall_mem_cons.mpr ⟨lw_p29, List.forall_mem_cons.mpr ⟨lw_p30, List.forall_mem_cons.mpr ⟨lw_p31, fun _ h => absurd h List.not_mem_nil⟩⟩⟩⟩⟩⟩⟩⟩⟩⟩⟩⟩⟩⟩⟩⟩
theorem lw_p32 : lw_okq (⟨"NeitherBare", "copyBordersToTrial", "()V"⟩, 13) := ⟨⟨by decide +kernel, by decide +kernel⟩, List.mem_of_getElem? (i := 11) (by decide +kernel), List.mem_of_getElem? (i := 623) (by decide +kernel), List.mem_of_getElem? (i := 624) (by decide +kernel)⟩
theorem lw_p33 : lw_okq (⟨"NeitherBare", "refusedJudgements", "(I)I"⟩, 13) := ⟨⟨by decide +kernel, by decide +kernel⟩, List.mem_of_getElem? (i := 11) (by decide +kernel), List.mem_of_getElem? (i := 636) (by decide +kernel), List.mem_of_getElem? (i := 637) (by decide +kernel)⟩
theorem lw_p34 : lw_okq (⟨"NeitherBare", "isJudgedByTrial", "(II)Z"⟩, 13) := ⟨⟨by decide +kernel, by decide +kernel⟩, List.mem_of_getElem? (i := 11) (by decide +kernel), List.mem_of_getElem? (i := 640) (by decide +kernel), List.mem_of_getElem? (i := 641) (by decide +kernel)⟩
theorem lw_p35 : lw_okq (⟨"NeitherBare", "tellChance", "(JJ)V"⟩, 13) := ⟨⟨by decide +kernel, by decide +kernel⟩, List.mem_of_getElem? (i := 11) (by decide +kernel), List.mem_of_getElem? (i := 649) (by decide +kernel), List.mem_of_getElem? (i := 650) (by decide +kernel)⟩
theorem lw_p36 : lw_okq (⟨"NeitherBare", "countNumber", "(I)I"⟩, 13) := ⟨⟨by decide +kernel, by decide +kernel⟩, List.mem_of_getElem? (i := 11) (by decide +kernel), List.mem_of_getElem? (i := 680) (by decide +kernel), List.mem_of_getElem? (i := 681) (by decide +kernel)⟩
theorem lw_p37 : lw_okq (⟨"NeitherBare", "clausesOf", "(I)I"⟩, 13) := ⟨⟨by decide +kernel, by decide +kernel⟩, List.mem_of_getElem? (i := 11) (by decide +kernel), List.mem_of_getElem? (i := 684) (by decide +kernel), List.mem_of_getElem? (i := 685) (by decide +kernel)⟩
theorem lw_p38 : lw_okq (⟨"NeitherBare", "manyKept", "()I"⟩, 13) := ⟨⟨by decide +kernel, by decide +kernel⟩, List.mem_of_getElem? (i := 11) (by decide +kernel), List.mem_of_getElem? (i := 693) (by decide +kernel), List.mem_of_getElem? (i := 694) (by decide +kernel)⟩
theorem lw_p39 : lw_okq (⟨"NeitherBareModel", "begin", "()V"⟩, 25) := ⟨⟨by decide +kernel, by decide +kernel⟩, List.mem_of_getElem? (i := 720) (by decide +kernel), List.mem_of_getElem? (i := 726) (by decide +kernel), List.mem_of_getElem? (i := 727) (by decide +kernel)⟩
theorem lw_p40 : lw_okq (⟨"NeitherBareModel", "find", "(I)I"⟩, 25) := ⟨⟨by decide +kernel, by decide +kernel⟩, List.mem_of_getElem? (i := 720) (by decide +kernel), List.mem_of_getElem? (i := 818) (by decide +kernel), List.mem_of_getElem? (i := 819) (by decide +kernel)⟩
theorem lw_p41 : lw_okq (⟨"NeitherBareModel", "makeRow", "(II)V"⟩, 25) := ⟨⟨by decide +kernel, by decide +kernel⟩, List.mem_of_getElem? (i := 720) (by decide +kernel), List.mem_of_getElem? (i := 822) (by decide +kernel), List.mem_of_getElem? (i := 823) (by decide +kernel)⟩
theorem lw_p42 : lw_okq (⟨"NeitherBareModel", "refused", "(II)I"⟩, 25) := ⟨⟨by decide +kernel, by decide +kernel⟩, List.mem_of_getElem? (i := 720) (by decide +kernel), List.mem_of_getElem? (i := 830) (by decide +kernel), List.mem_of_getElem? (i := 831) (by decide +kernel)⟩
theorem lw_p43 : lw_okq (⟨"NeitherBareModel", "tell", "(I)I"⟩, 25) := ⟨⟨by decide +kernel, by decide +kernel⟩, List.mem_of_getElem? (i := 720) (by decide +kernel), List.mem_of_getElem? (i := 834) (by decide +kernel), List.mem_of_getElem? (i := 835) (by decide +kernel)⟩
theorem lw_p44 : lw_okq (⟨"NeitherBareModel", "isSpan", "(III)Z"⟩, 25) := ⟨⟨by decide +kernel, by decide +kernel⟩, List.mem_of_getElem? (i := 720) (by decide +kernel), List.mem_of_getElem? (i := 850) (by decide +kernel), List.mem_of_getElem? (i := 851) (by decide +kernel)⟩
theorem lw_p45 : lw_okq (⟨"NeitherBareModel", "faultOf", "(I)I"⟩, 25) := ⟨⟨by decide +kernel, by decide +kernel⟩, List.mem_of_getElem? (i := 720) (by decide +kernel), List.mem_of_getElem? (i := 874) (by decide +kernel), List.mem_of_getElem? (i := 875) (by decide +kernel)⟩
theorem lw_p46 : lw_okq (⟨"NeitherBareModel", "skip", "()V"⟩, 25) := ⟨⟨by decide +kernel, by decide +kernel⟩, List.mem_of_getElem? (i := 720) (by decide +kernel), List.mem_of_getElem? (i := 878) (by decide +kernel), List.mem_of_getElem? (i := 879) (by decide +kernel)⟩
theorem lw_p47 : lw_okq (⟨"NeitherBareModel", "here", "()I"⟩, 25) := ⟨⟨by decide +kernel, by decide +kernel⟩, List.mem_of_getElem? (i := 720) (by decide +kernel), List.mem_of_getElem? (i := 882) (by decide +kernel), List.mem_of_getElem? (i := 883) (by decide +kernel)⟩
def lw_privs_3 : List (MethodName × Nat) := [(⟨"NeitherBare", "copyBordersToTrial", "()V"⟩, 13), (⟨"NeitherBare", "refusedJudgements", "(I)I"⟩, 13), (⟨"NeitherBare", "isJudgedByTrial", "(II)Z"⟩, 13), (⟨"NeitherBare", "tellChance", "(JJ)V"⟩, 13), (⟨"NeitherBare", "countNumber", "(I)I"⟩, 13), (⟨"NeitherBare", "clausesOf", "(I)I"⟩, 13), (⟨"NeitherBare", "manyKept", "()I"⟩, 13), (⟨"NeitherBareModel", "begin", "()V"⟩, 25), (⟨"NeitherBareModel", "find", "(I)I"⟩, 25), (⟨"NeitherBareModel", "makeRow", "(II)V"⟩, 25), (⟨"NeitherBareModel", "refused", "(II)I"⟩, 25), (⟨"NeitherBareModel", "tell", "(I)I"⟩, 25), (⟨"NeitherBareModel", "isSpan", "(III)Z"⟩, 25), (⟨"NeitherBareModel", "faultOf", "(I)I"⟩, 25), (⟨"NeitherBareModel", "skip", "()V"⟩, 25), (⟨"NeitherBareModel", "here", "()I"⟩, 25)]
theorem lw_r3 : ∀ q ∈ lw_privs_3, lw_okq q := List.forall_mem_cons.mpr ⟨lw_p32, List.forall_mem_cons.mpr ⟨lw_p33, List.forall_mem_cons.mpr ⟨lw_p34, List.forall_mem_cons.mpr ⟨lw_p35, List.forall_mem_cons.mpr ⟨lw_p36, List.forall_mem_cons.mpr ⟨lw_p37, List.forall_mem_cons.mpr ⟨lw_p38, List.forall_mem_cons.mpr ⟨lw_p39, List.forall_mem_cons.mpr ⟨lw_p40, List.forall_mem_cons.mpr ⟨lw_p41, List.forall_mem_cons.mpr ⟨lw_p42, List.forall_mem_cons.mpr ⟨lw_p43, List.forall_mem_cons.mpr ⟨lw_p44, List.forall_mem_cons.mpr ⟨lw_p45, List.forall_mem_cons.mpr ⟨lw_p46, List.forall_mem_cons.mpr ⟨lw_p47, fun _ h => absurd h List.not_mem_nil⟩⟩⟩⟩⟩⟩⟩⟩⟩⟩⟩⟩⟩⟩⟩⟩
theorem lw_p48 : lw_okq (⟨"NeitherBareModel", "readsThing", "()Z"⟩, 25) := ⟨⟨by decide +kernel, by decide +kernel⟩, List.mem_of_getElem? (i := 720) (by decide +kernel), List.mem_of_getElem? (i := 886) (by decide +kernel), List.mem_of_getElem? (i := 887) (by decide +kernel)⟩
theorem lw_p49 : lw_okq (⟨"NeitherBareModel", "figure", "(II)I"⟩, 25) := ⟨⟨by decide +kernel, by decide +kernel⟩, List.mem_of_getElem? (i := 720) (by decide +kernel), List.mem_of_getElem? (i := 890) (by decide +kernel), List.mem_of_getElem? (i := 891) (by decide +kernel)⟩
theorem lw_p50 : lw_okq (⟨"NeitherBareModel", "readsClause", "()Z"⟩, 25) := ⟨⟨by decide +kernel, by decide +kernel⟩, List.mem_of_getElem? (i := 720) (by decide +kernel), List.mem_of_getElem? (i := 895) (by decide +kernel), List.mem_of_getElem? (i := 896) (by decide +kernel)⟩
theorem lw_p51 : lw_okq (⟨"NeitherBareModel", "isClause", "(I)Z"⟩, 25) := ⟨⟨by decide +kernel, by decide +kernel⟩, List.mem_of_getElem? (i := 720) (by decide +kernel), List.mem_of_getElem? (i := 918) (by decide +kernel), List.mem_of_getElem? (i := 919) (by decide +kernel)⟩
theorem lw_p52 : lw_okq (⟨"NeitherBareModel", "toldOf", "(II)I"⟩, 25) := ⟨⟨by decide +kernel, by decide +kernel⟩, List.mem_of_getElem? (i := 720) (by decide +kernel), List.mem_of_getElem? (i := 922) (by decide +kernel), List.mem_of_getElem? (i := 923) (by decide +kernel)⟩
theorem lw_p53 : lw_okq (⟨"NeitherBareModel", "heldMany", "(III)I"⟩, 25) := ⟨⟨by decide +kernel, by decide +kernel⟩, List.mem_of_getElem? (i := 720) (by decide +kernel), List.mem_of_getElem? (i := 926) (by decide +kernel), List.mem_of_getElem? (i := 927) (by decide +kernel)⟩
theorem lw_p54 : lw_okq (⟨"NeitherBareModel", "ways", "()I"⟩, 25) := ⟨⟨by decide +kernel, by decide +kernel⟩, List.mem_of_getElem? (i := 720) (by decide +kernel), List.mem_of_getElem? (i := 930) (by decide +kernel), List.mem_of_getElem? (i := 931) (by decide +kernel)⟩
theorem lw_p55 : lw_okq (⟨"NeitherBareModel", "holdsOf", "(IIII)Z"⟩, 25) := ⟨⟨by decide +kernel, by decide +kernel⟩, List.mem_of_getElem? (i := 720) (by decide +kernel), List.mem_of_getElem? (i := 934) (by decide +kernel), List.mem_of_getElem? (i := 935) (by decide +kernel)⟩
theorem lw_p56 : lw_okq (⟨"NeitherBareModel", "valueOf", "(II)I"⟩, 25) := ⟨⟨by decide +kernel, by decide +kernel⟩, List.mem_of_getElem? (i := 720) (by decide +kernel), List.mem_of_getElem? (i := 938) (by decide +kernel), List.mem_of_getElem? (i := 939) (by decide +kernel)⟩
theorem lw_p57 : lw_okq (⟨"NeitherBareModel", "isBetween", "(II)Z"⟩, 25) := ⟨⟨by decide +kernel, by decide +kernel⟩, List.mem_of_getElem? (i := 720) (by decide +kernel), List.mem_of_getElem? (i := 945) (by decide +kernel), List.mem_of_getElem? (i := 946) (by decide +kernel)⟩
theorem lw_p58 : lw_okq (⟨"NeitherBareModel", "lowerOf", "(I)I"⟩, 25) := ⟨⟨by decide +kernel, by decide +kernel⟩, List.mem_of_getElem? (i := 720) (by decide +kernel), List.mem_of_getElem? (i := 949) (by decide +kernel), List.mem_of_getElem? (i := 950) (by decide +kernel)⟩
theorem lw_p59 : lw_okq (⟨"NeitherBareModel", "upperOf", "(I)I"⟩, 25) := ⟨⟨by decide +kernel, by decide +kernel⟩, List.mem_of_getElem? (i := 720) (by decide +kernel), List.mem_of_getElem? (i := 953) (by decide +kernel), List.mem_of_getElem? (i := 954) (by decide +kernel)⟩
theorem lw_p60 : lw_okq (⟨"NeitherBareModel", "isMuch", "(II)Z"⟩, 25) := ⟨⟨by decide +kernel, by decide +kernel⟩, List.mem_of_getElem? (i := 720) (by decide +kernel), List.mem_of_getElem? (i := 957) (by decide +kernel), List.mem_of_getElem? (i := 958) (by decide +kernel)⟩
theorem lw_p61 : lw_okq (⟨"NeitherBareModel", "half", "(I)I"⟩, 25) := ⟨⟨by decide +kernel, by decide +kernel⟩, List.mem_of_getElem? (i := 720) (by decide +kernel), List.mem_of_getElem? (i := 961) (by decide +kernel), List.mem_of_getElem? (i := 962) (by decide +kernel)⟩
theorem lw_p62 : lw_okq (⟨"NeitherBareModel", "isLittle", "(II)Z"⟩, 25) := ⟨⟨by decide +kernel, by decide +kernel⟩, List.mem_of_getElem? (i := 720) (by decide +kernel), List.mem_of_getElem? (i := 965) (by decide +kernel), List.mem_of_getElem? (i := 966) (by decide +kernel)⟩
theorem lw_p63 : lw_okq (⟨"NeitherBareModel", "isOf", "(II)Z"⟩, 25) := ⟨⟨by decide +kernel, by decide +kernel⟩, List.mem_of_getElem? (i := 720) (by decide +kernel), List.mem_of_getElem? (i := 973) (by decide +kernel), List.mem_of_getElem? (i := 974) (by decide +kernel)⟩
def lw_privs_4 : List (MethodName × Nat) := [(⟨"NeitherBareModel", "readsThing", "()Z"⟩, 25), (⟨"NeitherBareModel", "figure", "(II)I"⟩, 25), (⟨"NeitherBareModel", "readsClause", "()Z"⟩, 25), (⟨"NeitherBareModel", "isClause", "(I)Z"⟩, 25), (⟨"NeitherBareModel", "toldOf", "(II)I"⟩, 25), (⟨"NeitherBareModel", "heldMany", "(III)I"⟩, 25), (⟨"NeitherBareModel", "ways", "()I"⟩, 25), (⟨"NeitherBareModel", "holdsOf", "(IIII)Z"⟩, 25), (⟨"NeitherBareModel", "valueOf", "(II)I"⟩, 25), (⟨"NeitherBareModel", "isBetween", "(II)Z"⟩, 25), (⟨"NeitherBareModel", "lowerOf", "(I)I"⟩, 25), (⟨"NeitherBareModel", "upperOf", "(I)I"⟩, 25), (⟨"NeitherBareModel", "isMuch", "(II)Z"⟩, 25), (⟨"NeitherBareModel", "half", "(I)I"⟩, 25), (⟨"NeitherBareModel", "isLittle", "(II)Z"⟩, 25), (⟨"NeitherBareModel", "isOf", "(II)Z"⟩, 25)]
theorem lw_r4 : ∀ q ∈ lw_privs_4, lw_okq q := List.forall_mem_cons.mpr ⟨lw_p48, List.forall_mem_cons.mpr ⟨lw_p49, List.forall_mem_cons.mpr ⟨lw_p50, List.forall_mem_cons.mpr ⟨lw_p51, List.forall_mem_cons.mpr ⟨lw_p52, List.forall_mem_cons.mpr ⟨lw_p53, List.forall_mem_cons.mpr ⟨lw_p54, List.forall_mem_cons.mpr ⟨lw_p55, List.forall_mem_cons.mpr ⟨lw_p56, List.forall_mem_cons.mpr ⟨lw_p57, List.forall_mem_cons.mpr ⟨lw_p58, List.forall_mem_cons.mpr ⟨lw_p59, List.forall_mem_cons.mpr ⟨lw_p60, List.forall_mem_cons.mpr ⟨lw_p61, List.forall_mem_cons.mpr ⟨lw_p62, List.forall_mem_cons.mpr ⟨lw_p63, fun _ h => absurd h List.not_mem_nil⟩⟩⟩⟩⟩⟩⟩⟩⟩⟩⟩⟩⟩⟩⟩⟩
theorem lw_p64 : lw_okq (⟨"NeitherBareModel", "muchAlone", "(I)I"⟩, 25) := ⟨⟨by decide +kernel, by decide +kernel⟩, List.mem_of_getElem? (i := 720) (by decide +kernel), List.mem_of_getElem? (i := 977) (by decide +kernel), List.mem_of_getElem? (i := 978) (by decide +kernel)⟩
theorem lw_p65 : lw_okq (⟨"NeitherBareModel", "littleMany", "(I)I"⟩, 25) := ⟨⟨by decide +kernel, by decide +kernel⟩, List.mem_of_getElem? (i := 720) (by decide +kernel), List.mem_of_getElem? (i := 981) (by decide +kernel), List.mem_of_getElem? (i := 982) (by decide +kernel)⟩
theorem lw_p66 : lw_okq (⟨"NeitherBareModel", "keepPast", "()V"⟩, 25) := ⟨⟨by decide +kernel, by decide +kernel⟩, List.mem_of_getElem? (i := 720) (by decide +kernel), List.mem_of_getElem? (i := 996) (by decide +kernel), List.mem_of_getElem? (i := 997) (by decide +kernel)⟩
theorem lw_p67 : lw_okq (⟨"NeitherBareModel", "isBelow", "(III)Z"⟩, 25) := ⟨⟨by decide +kernel, by decide +kernel⟩, List.mem_of_getElem? (i := 720) (by decide +kernel), List.mem_of_getElem? (i := 1010) (by decide +kernel), List.mem_of_getElem? (i := 1011) (by decide +kernel)⟩
theorem lw_p68 : lw_okq (⟨"NeitherBareModel", "copyCourt", "(II)V"⟩, 25) := ⟨⟨by decide +kernel, by decide +kernel⟩, List.mem_of_getElem? (i := 720) (by decide +kernel), List.mem_of_getElem? (i := 1023) (by decide +kernel), List.mem_of_getElem? (i := 1024) (by decide +kernel)⟩
theorem lw_p69 : lw_okq (⟨"NeitherBareModel", "isWay", "(I)Z"⟩, 25) := ⟨⟨by decide +kernel, by decide +kernel⟩, List.mem_of_getElem? (i := 720) (by decide +kernel), List.mem_of_getElem? (i := 1035) (by decide +kernel), List.mem_of_getElem? (i := 1036) (by decide +kernel)⟩
theorem lw_p70 : lw_okq (⟨"NeitherBareModel", "costOf", "(I)I"⟩, 25) := ⟨⟨by decide +kernel, by decide +kernel⟩, List.mem_of_getElem? (i := 720) (by decide +kernel), List.mem_of_getElem? (i := 1043) (by decide +kernel), List.mem_of_getElem? (i := 1044) (by decide +kernel)⟩
theorem lw_p71 : lw_okq (⟨"NeitherBareModel", "isGood", "(I)Z"⟩, 25) := ⟨⟨by decide +kernel, by decide +kernel⟩, List.mem_of_getElem? (i := 720) (by decide +kernel), List.mem_of_getElem? (i := 1051) (by decide +kernel), List.mem_of_getElem? (i := 1052) (by decide +kernel)⟩
theorem lw_p72 : lw_okq (⟨"NeitherBareModel", "heldBy", "(I)I"⟩, 25) := ⟨⟨by decide +kernel, by decide +kernel⟩, List.mem_of_getElem? (i := 720) (by decide +kernel), List.mem_of_getElem? (i := 1055) (by decide +kernel), List.mem_of_getElem? (i := 1056) (by decide +kernel)⟩
theorem lw_p73 : lw_okq (⟨"NeitherBareModel", "holdsIn", "(II)Z"⟩, 25) := ⟨⟨by decide +kernel, by decide +kernel⟩, List.mem_of_getElem? (i := 720) (by decide +kernel), List.mem_of_getElem? (i := 1059) (by decide +kernel), List.mem_of_getElem? (i := 1060) (by decide +kernel)⟩
theorem lw_p74 : lw_okq (⟨"NeitherBareModel", "goodMany", "()I"⟩, 25) := ⟨⟨by decide +kernel, by decide +kernel⟩, List.mem_of_getElem? (i := 720) (by decide +kernel), List.mem_of_getElem? (i := 1067) (by decide +kernel), List.mem_of_getElem? (i := 1068) (by decide +kernel)⟩
theorem lw_p75 : lw_okq (⟨"NeitherBareModel", "best", "(Z)I"⟩, 25) := ⟨⟨by decide +kernel, by decide +kernel⟩, List.mem_of_getElem? (i := 720) (by decide +kernel), List.mem_of_getElem? (i := 1075) (by decide +kernel), List.mem_of_getElem? (i := 1076) (by decide +kernel)⟩
theorem lw_p76 : lw_okq (⟨"NeitherBareModel", "clashes", "(I)Z"⟩, 25) := ⟨⟨by decide +kernel, by decide +kernel⟩, List.mem_of_getElem? (i := 720) (by decide +kernel), List.mem_of_getElem? (i := 1095) (by decide +kernel), List.mem_of_getElem? (i := 1096) (by decide +kernel)⟩
theorem lw_p77 : lw_okq (⟨"NeitherBareModel", "layGame", "(I)V"⟩, 25) := ⟨⟨by decide +kernel, by decide +kernel⟩, List.mem_of_getElem? (i := 720) (by decide +kernel), List.mem_of_getElem? (i := 1115) (by decide +kernel), List.mem_of_getElem? (i := 1116) (by decide +kernel)⟩
theorem lw_p78 : lw_okq (⟨"NeitherBareModel", "layTurn", "()V"⟩, 25) := ⟨⟨by decide +kernel, by decide +kernel⟩, List.mem_of_getElem? (i := 720) (by decide +kernel), List.mem_of_getElem? (i := 1119) (by decide +kernel), List.mem_of_getElem? (i := 1120) (by decide +kernel)⟩
theorem lw_p79 : lw_okq (⟨"NeitherBareModel", "withstands", "(II)Z"⟩, 25) := ⟨⟨by decide +kernel, by decide +kernel⟩, List.mem_of_getElem? (i := 720) (by decide +kernel), List.mem_of_getElem? (i := 1123) (by decide +kernel), List.mem_of_getElem? (i := 1124) (by decide +kernel)⟩
def lw_privs_5 : List (MethodName × Nat) := [(⟨"NeitherBareModel", "muchAlone", "(I)I"⟩, 25), (⟨"NeitherBareModel", "littleMany", "(I)I"⟩, 25), (⟨"NeitherBareModel", "keepPast", "()V"⟩, 25), (⟨"NeitherBareModel", "isBelow", "(III)Z"⟩, 25), (⟨"NeitherBareModel", "copyCourt", "(II)V"⟩, 25), (⟨"NeitherBareModel", "isWay", "(I)Z"⟩, 25), (⟨"NeitherBareModel", "costOf", "(I)I"⟩, 25), (⟨"NeitherBareModel", "isGood", "(I)Z"⟩, 25), (⟨"NeitherBareModel", "heldBy", "(I)I"⟩, 25), (⟨"NeitherBareModel", "holdsIn", "(II)Z"⟩, 25), (⟨"NeitherBareModel", "goodMany", "()I"⟩, 25), (⟨"NeitherBareModel", "best", "(Z)I"⟩, 25), (⟨"NeitherBareModel", "clashes", "(I)Z"⟩, 25), (⟨"NeitherBareModel", "layGame", "(I)V"⟩, 25), (⟨"NeitherBareModel", "layTurn", "()V"⟩, 25), (⟨"NeitherBareModel", "withstands", "(II)Z"⟩, 25)]
theorem lw_r5 : ∀ q ∈ lw_privs_5, lw_okq q := List.forall_mem_cons.mpr ⟨lw_p64, List.forall_mem_cons.mpr ⟨lw_p65, List.forall_mem_cons.mpr ⟨lw_p66, List.forall_mem_cons.mpr ⟨lw_p67, List.forall_mem_cons.mpr ⟨lw_p68, List.forall_mem_cons.mpr ⟨lw_p69, List.forall_mem_cons.mpr ⟨lw_p70, List.forall_mem_cons.mpr ⟨lw_p71, List.forall_mem_cons.mpr ⟨lw_p72, List.forall_mem_cons.mpr ⟨lw_p73, List.forall_mem_cons.mpr ⟨lw_p74, List.forall_mem_cons.mpr ⟨lw_p75, List.forall_mem_cons.mpr ⟨lw_p76, List.forall_mem_cons.mpr ⟨lw_p77, List.forall_mem_cons.mpr ⟨lw_p78, List.forall_mem_cons.mpr ⟨lw_p79, fun _ h => absurd h List.not_mem_nil⟩⟩⟩⟩⟩⟩⟩⟩⟩⟩⟩⟩⟩⟩⟩⟩
theorem lw_p80 : lw_okq (⟨"NeitherBareModel", "answers", "(II)Z"⟩, 25) := ⟨⟨by decide +kernel, by decide +kernel⟩, List.mem_of_getElem? (i := 720) (by decide +kernel), List.mem_of_getElem? (i := 1127) (by decide +kernel), List.mem_of_getElem? (i := 1128) (by decide +kernel)⟩
theorem lw_p81 : lw_okq (⟨"NeitherBareModel", "noRulings", "(I)I"⟩, 25) := ⟨⟨by decide +kernel, by decide +kernel⟩, List.mem_of_getElem? (i := 720) (by decide +kernel), List.mem_of_getElem? (i := 1139) (by decide +kernel), List.mem_of_getElem? (i := 1140) (by decide +kernel)⟩
theorem lw_p82 : lw_okq (⟨"NeitherBareModel", "rule", "(III)I"⟩, 25) := ⟨⟨by decide +kernel, by decide +kernel⟩, List.mem_of_getElem? (i := 720) (by decide +kernel), List.mem_of_getElem? (i := 1143) (by decide +kernel), List.mem_of_getElem? (i := 1144) (by decide +kernel)⟩
theorem lw_p83 : lw_okq (⟨"NeitherBareModel", "against", "(III)Z"⟩, 25) := ⟨⟨by decide +kernel, by decide +kernel⟩, List.mem_of_getElem? (i := 720) (by decide +kernel), List.mem_of_getElem? (i := 1147) (by decide +kernel), List.mem_of_getElem? (i := 1148) (by decide +kernel)⟩
theorem lw_p84 : lw_okq (⟨"NeitherBareModel", "isFixed", "(II)Z"⟩, 25) := ⟨⟨by decide +kernel, by decide +kernel⟩, List.mem_of_getElem? (i := 720) (by decide +kernel), List.mem_of_getElem? (i := 1155) (by decide +kernel), List.mem_of_getElem? (i := 1156) (by decide +kernel)⟩
theorem lw_p85 : lw_okq (⟨"NeitherBareModel", "areJudged", "(I)Z"⟩, 25) := ⟨⟨by decide +kernel, by decide +kernel⟩, List.mem_of_getElem? (i := 720) (by decide +kernel), List.mem_of_getElem? (i := 1184) (by decide +kernel), List.mem_of_getElem? (i := 1185) (by decide +kernel)⟩
theorem lw_p86 : lw_okq (⟨"NeitherBareModel", "isJudged", "(II)Z"⟩, 25) := ⟨⟨by decide +kernel, by decide +kernel⟩, List.mem_of_getElem? (i := 720) (by decide +kernel), List.mem_of_getElem? (i := 1188) (by decide +kernel), List.mem_of_getElem? (i := 1189) (by decide +kernel)⟩
theorem lw_p87 : lw_okq (⟨"NeitherBareModel", "tellParts", "(JJ)I"⟩, 25) := ⟨⟨by decide +kernel, by decide +kernel⟩, List.mem_of_getElem? (i := 720) (by decide +kernel), List.mem_of_getElem? (i := 1197) (by decide +kernel), List.mem_of_getElem? (i := 1198) (by decide +kernel)⟩
theorem lw_p88 : lw_okq (⟨"NeitherBareModel", "countOf", "(I)I"⟩, 25) := ⟨⟨by decide +kernel, by decide +kernel⟩, List.mem_of_getElem? (i := 720) (by decide +kernel), List.mem_of_getElem? (i := 1231) (by decide +kernel), List.mem_of_getElem? (i := 1232) (by decide +kernel)⟩
theorem lw_p89 : lw_okq (⟨"NeitherBareModel", "kindMany", "(I)I"⟩, 25) := ⟨⟨by decide +kernel, by decide +kernel⟩, List.mem_of_getElem? (i := 720) (by decide +kernel), List.mem_of_getElem? (i := 1235) (by decide +kernel), List.mem_of_getElem? (i := 1236) (by decide +kernel)⟩
theorem lw_p90 : lw_okq (⟨"NeitherBareModel", "thereOf", "(I)I"⟩, 25) := ⟨⟨by decide +kernel, by decide +kernel⟩, List.mem_of_getElem? (i := 720) (by decide +kernel), List.mem_of_getElem? (i := 1239) (by decide +kernel), List.mem_of_getElem? (i := 1240) (by decide +kernel)⟩
def lw_privs_6 : List (MethodName × Nat) := [(⟨"NeitherBareModel", "answers", "(II)Z"⟩, 25), (⟨"NeitherBareModel", "noRulings", "(I)I"⟩, 25), (⟨"NeitherBareModel", "rule", "(III)I"⟩, 25), (⟨"NeitherBareModel", "against", "(III)Z"⟩, 25), (⟨"NeitherBareModel", "isFixed", "(II)Z"⟩, 25), (⟨"NeitherBareModel", "areJudged", "(I)Z"⟩, 25), (⟨"NeitherBareModel", "isJudged", "(II)Z"⟩, 25), (⟨"NeitherBareModel", "tellParts", "(JJ)I"⟩, 25), (⟨"NeitherBareModel", "countOf", "(I)I"⟩, 25), (⟨"NeitherBareModel", "kindMany", "(I)I"⟩, 25), (⟨"NeitherBareModel", "thereOf", "(I)I"⟩, 25)]
theorem lw_r6 : ∀ q ∈ lw_privs_6, lw_okq q := List.forall_mem_cons.mpr ⟨lw_p80, List.forall_mem_cons.mpr ⟨lw_p81, List.forall_mem_cons.mpr ⟨lw_p82, List.forall_mem_cons.mpr ⟨lw_p83, List.forall_mem_cons.mpr ⟨lw_p84, List.forall_mem_cons.mpr ⟨lw_p85, List.forall_mem_cons.mpr ⟨lw_p86, List.forall_mem_cons.mpr ⟨lw_p87, List.forall_mem_cons.mpr ⟨lw_p88, List.forall_mem_cons.mpr ⟨lw_p89, List.forall_mem_cons.mpr ⟨lw_p90, fun _ h => absurd h List.not_mem_nil⟩⟩⟩⟩⟩⟩⟩⟩⟩⟩⟩
def lw_privs : List (MethodName × Nat) := lw_privs_1 ++ (lw_privs_2 ++ (lw_privs_3 ++ (lw_privs_4 ++ (lw_privs_5 ++ (lw_privs_6)))))
def lw_tbl : List Cond := k2_sels lw_privs ++ tables_1
theorem lw_privs_ok : ∀ q ∈ lw_privs, lw_okq q := by
  show ∀ q ∈ lw_privs_1 ++ (lw_privs_2 ++ (lw_privs_3 ++ (lw_privs_4 ++ (lw_privs_5 ++ (lw_privs_6))))), lw_okq q
  exact List.forall_mem_append.mpr ⟨lw_r1, List.forall_mem_append.mpr ⟨lw_r2, List.forall_mem_append.mpr ⟨lw_r3, List.forall_mem_append.mpr ⟨lw_r4, List.forall_mem_append.mpr ⟨lw_r5, lw_r6⟩⟩⟩⟩⟩
-- ===== end of PART A; then your names; then what follows =====
end
section
/-! ===== BEGIN words of one list among another's, by their places ===== -/
theorem goodIn_r {big : List Cond} (ws : List Cond) (ps : List Nat) (hp : ws = ps.filterMap (fun i => big[i]?)) (h : ws.all goodWord = true) : GoodIn big ws := by
  intro w hw
  have h1 := List.all_eq_true.mp h w hw
  rw [hp] at hw
  obtain ⟨i, -, hi⟩ := List.mem_filterMap.mp hw
  have hm : w ∈ big := by first | exact List.mem_of_getElem? hi | exact List.getElem?_mem hi
  exact ⟨hm, good_of_word h1⟩
theorem goodIn_app {big a b : List Cond} (ha : GoodIn big a) (hb : GoodIn big b) : GoodIn big (a ++ b) := fun w h => (List.mem_append.mp h).elim (ha w) (hb w)
theorem goodIn_ca {big a b : List Cond} {c : Cond} (ha : GoodIn big (c :: a)) (hb : GoodIn big b) : GoodIn big (c :: (a ++ b)) := fun w h => (List.mem_cons.mp h).elim (fun e => ha w (List.mem_cons.mpr (Or.inl e))) (fun h => (List.mem_append.mp h).elim (fun h => ha w (List.mem_cons.mpr (Or.inr h))) (hb w))
theorem goodIn_sub {big ws : List Cond} (hm : ∀ w ∈ ws, w ∈ big) (h : ws.all goodWord = true) : GoodIn big ws := fun w hw => ⟨hm w hw, good_of_word (List.all_eq_true.mp h w hw)⟩
/-! ===== END ===== -/

/-! ===== BEGIN printed: names, fields, word lists, decode rows ===== -/
def RX0 : String := "NeitherBare$Court"
def TX0 : u_T := fun k => match k with
  | 0 => ("NeitherBare$Court", "things", "I", false)
  | 1 => ("NeitherBare$Court", "clauses", "I", false)
  | 2 => ("NeitherBare$Court", "due", "I", false)
  | 3 => ("NeitherBare$Court", "given", "[I", true)
  | 4 => ("NeitherBare$Court", "sums", "[I", true)
  | 5 => ("NeitherBare$Court", "kind", "[I", true)
  | 6 => ("NeitherBare$Court", "trait", "[I", true)
  | _ => ("NeitherBare$Court", "other", "[I", true)
def tyX0 : Nat → FieldType := fun k => match k with
  | 0 => .int
  | 1 => .int
  | 2 => .int
  | 3 => .array .int
  | 4 => .array .int
  | 5 => .array .int
  | 6 => .array .int
  | _ => .array .int
abbrev wsX00 : List Cond := u_ws RX0 TX0 8
theorem nmX0 : ∀ a, a < 8 → ∀ b, b < 8 → a ≠ b → (TX0 a).2.1 ≠ (TX0 b).2.1 := by decide +kernel
theorem tyX0_ok : ∀ k, k < 8 → parseFieldDescriptor (TX0 k).2.2.1 = some (tyX0 k) := by decide +kernel
abbrev cX0_init : ByteArray := prog_2_method_1_code
def yX0_init : MethodName := ⟨RX0, "<init>", "()V"⟩
abbrev cX0_readFrom : ByteArray := prog_2_method_2_code
def yX0_readFrom : MethodName := ⟨RX0, "readFrom", "(LNeitherBare$Shelf;I)I"⟩
abbrev cX0_beginsItem : ByteArray := prog_2_method_3_code
def yX0_beginsItem : MethodName := ⟨RX0, "beginsItem", "(I)Z"⟩
abbrev cX0_beginsThing : ByteArray := prog_2_method_4_code
def yX0_beginsThing : MethodName := ⟨RX0, "beginsThing", "()Z"⟩
abbrev cX0_beginsClause : ByteArray := prog_2_method_5_code
def yX0_beginsClause : MethodName := ⟨RX0, "beginsClause", "(I)Z"⟩
abbrev cX0_takesFigure : ByteArray := prog_2_method_6_code
def yX0_takesFigure : MethodName := ⟨RX0, "takesFigure", "(I)Z"⟩
abbrev cX0_takesGift : ByteArray := prog_2_method_7_code
def yX0_takesGift : MethodName := ⟨RX0, "takesGift", "(I)Z"⟩
abbrev cX0_takesTrait : ByteArray := prog_2_method_8_code
def yX0_takesTrait : MethodName := ⟨RX0, "takesTrait", "(I)Z"⟩
abbrev cX0_ways : ByteArray := prog_2_method_9_code
def yX0_ways : MethodName := ⟨RX0, "ways", "()I"⟩
abbrev cX0_clauseSets : ByteArray := prog_2_method_10_code
def yX0_clauseSets : MethodName := ⟨RX0, "clauseSets", "()I"⟩
abbrev cX0_isWay : ByteArray := prog_2_method_11_code
def yX0_isWay : MethodName := ⟨RX0, "isWay", "(I)Z"⟩
abbrev cX0_secondOf : ByteArray := prog_2_method_12_code
def yX0_secondOf : MethodName := ⟨RX0, "secondOf", "(I)I"⟩
abbrev cX0_addUp : ByteArray := prog_2_method_13_code
def yX0_addUp : MethodName := ⟨RX0, "addUp", "()V"⟩
abbrev cX0_sumOf : ByteArray := prog_2_method_14_code
def yX0_sumOf : MethodName := ⟨RX0, "sumOf", "(II)I"⟩
abbrev cX0_valueOf : ByteArray := prog_2_method_15_code
def yX0_valueOf : MethodName := ⟨RX0, "valueOf", "(II)I"⟩
abbrev cX0_heldBy : ByteArray := prog_2_method_16_code
def yX0_heldBy : MethodName := ⟨RX0, "heldBy", "(I[I)I"⟩
abbrev cX0_isHeldAs : ByteArray := prog_2_method_17_code
def yX0_isHeldAs : MethodName := ⟨RX0, "isHeldAs", "(III[I)Z"⟩
abbrev cX0_isSecondMuch : ByteArray := prog_2_method_18_code
def yX0_isSecondMuch : MethodName := ⟨RX0, "isSecondMuch", "(II[I)Z"⟩
abbrev cX0_isSecondLittle : ByteArray := prog_2_method_19_code
def yX0_isSecondLittle : MethodName := ⟨RX0, "isSecondLittle", "(II[I)Z"⟩
def RX1 : String := "NeitherBare$Shelf"
def TX1 : u_T := fun k => match k with
  | 0 => ("NeitherBare$Shelf", "places", "I", true)
  | 1 => ("NeitherBare$Shelf", "width", "I", true)
  | 2 => ("NeitherBare$Shelf", "blank", "I", true)
  | 3 => ("NeitherBare$Shelf", "cells", "[I", true)
  | _ => ("NeitherBare$Shelf", "sizes", "[I", true)
def tyX1 : Nat → FieldType := fun k => match k with
  | 0 => .int
  | 1 => .int
  | 2 => .int
  | 3 => .array .int
  | _ => .array .int
abbrev wsX10 : List Cond := u_ws RX1 TX1 5
theorem nmX1 : ∀ a, a < 5 → ∀ b, b < 5 → a ≠ b → (TX1 a).2.1 ≠ (TX1 b).2.1 := by decide +kernel
theorem tyX1_ok : ∀ k, k < 5 → parseFieldDescriptor (TX1 k).2.2.1 = some (tyX1 k) := by decide +kernel
abbrev cX1_init : ByteArray := prog_3_method_1_code
def yX1_init : MethodName := ⟨RX1, "<init>", "(III)V"⟩
abbrev cX1_isPlace : ByteArray := prog_3_method_2_code
def yX1_isPlace : MethodName := ⟨RX1, "isPlace", "(I)Z"⟩
abbrev cX1_isThere : ByteArray := prog_3_method_3_code
def yX1_isThere : MethodName := ⟨RX1, "isThere", "(I)Z"⟩
abbrev cX1_sizeOf : ByteArray := prog_3_method_4_code
def yX1_sizeOf : MethodName := ⟨RX1, "sizeOf", "(I)I"⟩
abbrev cX1_hasStretch : ByteArray := prog_3_method_5_code
def yX1_hasStretch : MethodName := ⟨RX1, "hasStretch", "(III)Z"⟩
abbrev cX1_cellOf : ByteArray := prog_3_method_6_code
def yX1_cellOf : MethodName := ⟨RX1, "cellOf", "(II)I"⟩
abbrev cX1_setCell : ByteArray := prog_3_method_7_code
def yX1_setCell : MethodName := ⟨RX1, "setCell", "(III)V"⟩
abbrev cX1_lieAnew : ByteArray := prog_3_method_8_code
def yX1_lieAnew : MethodName := ⟨RX1, "lieAnew", "(II)V"⟩
abbrev cX1_remove : ByteArray := prog_3_method_9_code
def yX1_remove : MethodName := ⟨RX1, "remove", "(I)V"⟩
abbrev cX1_moveStretch : ByteArray := prog_3_method_10_code
def yX1_moveStretch : MethodName := ⟨RX1, "moveStretch", "(IIIII)V"⟩
abbrev cX1_manyThere : ByteArray := prog_3_method_11_code
def yX1_manyThere : MethodName := ⟨RX1, "manyThere", "()I"⟩
abbrev cX1_mixInto : ByteArray := prog_3_method_12_code
def yX1_mixInto : MethodName := ⟨RX1, "mixInto", "(J)J"⟩
def RX2 : String := "NeitherBare$Standing"
def TX2 : u_T := fun k => match k with
  | 0 => ("NeitherBare$Standing", "isThere", "Z", false)
  | 1 => ("NeitherBare$Standing", "on", "I", false)
  | 2 => ("NeitherBare$Standing", "deeds", "I", false)
  | 3 => ("NeitherBare$Standing", "border", "[I", true)
  | 4 => ("NeitherBare$Standing", "deedPlace", "[I", true)
  | _ => ("NeitherBare$Standing", "deedWas", "[I", true)
def tyX2 : Nat → FieldType := fun k => match k with
  | 0 => .boolean
  | 1 => .int
  | 2 => .int
  | 3 => .array .int
  | 4 => .array .int
  | _ => .array .int
abbrev wsX20 : List Cond := u_ws RX2 TX2 6
theorem nmX2 : ∀ a, a < 6 → ∀ b, b < 6 → a ≠ b → (TX2 a).2.1 ≠ (TX2 b).2.1 := by decide +kernel
theorem tyX2_ok : ∀ k, k < 6 → parseFieldDescriptor (TX2 k).2.2.1 = some (tyX2 k) := by decide +kernel
abbrev cX2_init : ByteArray := prog_4_method_1_code
def yX2_init : MethodName := ⟨RX2, "<init>", "()V"⟩
abbrev cX2_beginWith : ByteArray := prog_4_method_2_code
def yX2_beginWith : MethodName := ⟨RX2, "beginWith", "(I)V"⟩
abbrev cX2_isOn : ByteArray := prog_4_method_3_code
def yX2_isOn : MethodName := ⟨RX2, "isOn", "(I)Z"⟩
abbrev cX2_lowerOf : ByteArray := prog_4_method_4_code
def yX2_lowerOf : MethodName := ⟨RX2, "lowerOf", "(I)I"⟩
abbrev cX2_upperOf : ByteArray := prog_4_method_5_code
def yX2_upperOf : MethodName := ⟨RX2, "upperOf", "(I)I"⟩
abbrev cX2_doClause : ByteArray := prog_4_method_6_code
def yX2_doClause : MethodName := ⟨RX2, "doClause", "(IZ)V"⟩
abbrev cX2_doBorder : ByteArray := prog_4_method_7_code
def yX2_doBorder : MethodName := ⟨RX2, "doBorder", "(II)V"⟩
abbrev cX2_takeBackTo : ByteArray := prog_4_method_8_code
def yX2_takeBackTo : MethodName := ⟨RX2, "takeBackTo", "(I)V"⟩
abbrev cX2_takeFrom : ByteArray := prog_4_method_9_code
def yX2_takeFrom : MethodName := ⟨RX2, "takeFrom", "(LNeitherBare$Standing;)V"⟩
abbrev cX2_noteDeed : ByteArray := prog_4_method_10_code
def yX2_noteDeed : MethodName := ⟨RX2, "noteDeed", "(II)V"⟩
abbrev cX2_setClause : ByteArray := prog_4_method_11_code
def yX2_setClause : MethodName := ⟨RX2, "setClause", "(IZ)V"⟩
def RX3 : String := "NeitherBare"
def TX3 : u_T := fun k => match k with
  | 0 => ("NeitherBare", "rows", "LNeitherBare$Shelf;", true)
  | 1 => ("NeitherBare", "texts", "LNeitherBare$Shelf;", true)
  | 2 => ("NeitherBare", "court", "LNeitherBare$Court;", false)
  | 3 => ("NeitherBare", "draft", "LNeitherBare$Court;", false)
  | 4 => ("NeitherBare", "now", "LNeitherBare$Standing;", true)
  | 5 => ("NeitherBare", "kept", "[LNeitherBare$Standing;", true)
  | 6 => ("NeitherBare", "masks", "[I", true)
  | 7 => ("NeitherBare", "trial", "[I", true)
  | 8 => ("NeitherBare", "found", "[I", true)
  | 9 => ("NeitherBare", "latest", "I", false)
  | 10 => ("NeitherBare", "told", "I", false)
  | 11 => ("NeitherBare", "chanceUpper", "J", false)
  | _ => ("NeitherBare", "chanceLower", "J", false)
def tyX3 : Nat → FieldType := fun k => match k with
  | 0 => .object "NeitherBare$Shelf"
  | 1 => .object "NeitherBare$Shelf"
  | 2 => .object "NeitherBare$Court"
  | 3 => .object "NeitherBare$Court"
  | 4 => .object "NeitherBare$Standing"
  | 5 => .array (.object "NeitherBare$Standing")
  | 6 => .array .int
  | 7 => .array .int
  | 8 => .array .int
  | 9 => .int
  | 10 => .int
  | 11 => .long
  | _ => .long
abbrev wsX30 : List Cond := u_ws RX3 TX3 13
theorem nmX3 : ∀ a, a < 13 → ∀ b, b < 13 → a ≠ b → (TX3 a).2.1 ≠ (TX3 b).2.1 := by decide +kernel
theorem tyX3_ok : ∀ k, k < 13 → parseFieldDescriptor (TX3 k).2.2.1 = some (tyX3 k) := by decide +kernel
abbrev cX3_init : ByteArray := prog_1_method_1_code
def yX3_init : MethodName := ⟨RX3, "<init>", "()V"⟩
abbrev cX3_row : ByteArray := prog_1_method_2_code
def yX3_row : MethodName := ⟨RX3, "row", "(II)I"⟩
abbrev cX3_lay : ByteArray := prog_1_method_3_code
def yX3_lay : MethodName := ⟨RX3, "lay", "(III)I"⟩
abbrev cX3_at : ByteArray := prog_1_method_4_code
def yX3_at : MethodName := ⟨RX3, "at", "(II)I"⟩
abbrev cX3_tear : ByteArray := prog_1_method_5_code
def yX3_tear : MethodName := ⟨RX3, "tear", "(I)I"⟩
abbrev cX3_copy : ByteArray := prog_1_method_6_code
def yX3_copy : MethodName := ⟨RX3, "copy", "(IIIII)I"⟩
abbrev cX3_mean : ByteArray := prog_1_method_7_code
def yX3_mean : MethodName := ⟨RX3, "mean", "(I)I"⟩
abbrev cX3_text : ByteArray := prog_1_method_8_code
def yX3_text : MethodName := ⟨RX3, "text", "(II)I"⟩
abbrev cX3_put : ByteArray := prog_1_method_9_code
def yX3_put : MethodName := ⟨RX3, "put", "(III)I"⟩
abbrev cX3_fault : ByteArray := prog_1_method_10_code
def yX3_fault : MethodName := ⟨RX3, "fault", "(I)I"⟩
abbrev cX3_court : ByteArray := prog_1_method_11_code
def yX3_court : MethodName := ⟨RX3, "court", "(I)I"⟩
abbrev cX3_thing : ByteArray := prog_1_method_12_code
def yX3_thing : MethodName := ⟨RX3, "thing", "(II)I"⟩
abbrev cX3_clause : ByteArray := prog_1_method_13_code
def yX3_clause : MethodName := ⟨RX3, "clause", "(II)I"⟩
abbrev cX3_mark : ByteArray := prog_1_method_14_code
def yX3_mark : MethodName := ⟨RX3, "mark", "(II)I"⟩
abbrev cX3_border : ByteArray := prog_1_method_15_code
def yX3_border : MethodName := ⟨RX3, "border", "(II)I"⟩
abbrev cX3_strike : ByteArray := prog_1_method_16_code
def yX3_strike : MethodName := ⟨RX3, "strike", "(II)I"⟩
abbrev cX3_move : ByteArray := prog_1_method_17_code
def yX3_move : MethodName := ⟨RX3, "move", "(III)I"⟩
abbrev cX3_undo : ByteArray := prog_1_method_18_code
def yX3_undo : MethodName := ⟨RX3, "undo", "(I)I"⟩
abbrev cX3_keep : ByteArray := prog_1_method_19_code
def yX3_keep : MethodName := ⟨RX3, "keep", "(I)I"⟩
abbrev cX3_on : ByteArray := prog_1_method_20_code
def yX3_on : MethodName := ⟨RX3, "on", "(I)I"⟩
abbrev cX3_value : ByteArray := prog_1_method_21_code
def yX3_value : MethodName := ⟨RX3, "value", "(II)I"⟩
abbrev cX3_cost : ByteArray := prog_1_method_22_code
def yX3_cost : MethodName := ⟨RX3, "cost", "(I)I"⟩
abbrev cX3_holds : ByteArray := prog_1_method_23_code
def yX3_holds : MethodName := ⟨RX3, "holds", "(I)I"⟩
abbrev cX3_good : ByteArray := prog_1_method_24_code
def yX3_good : MethodName := ⟨RX3, "good", "()I"⟩
abbrev cX3_cheapest : ByteArray := prog_1_method_25_code
def yX3_cheapest : MethodName := ⟨RX3, "cheapest", "()I"⟩
abbrev cX3_fewest : ByteArray := prog_1_method_26_code
def yX3_fewest : MethodName := ⟨RX3, "fewest", "()I"⟩
abbrev cX3_nearest : ByteArray := prog_1_method_27_code
def yX3_nearest : MethodName := ⟨RX3, "nearest", "()I"⟩
abbrev cX3_tight : ByteArray := prog_1_method_28_code
def yX3_tight : MethodName := ⟨RX3, "tight", "(I)I"⟩
abbrev cX3_clash : ByteArray := prog_1_method_29_code
def yX3_clash : MethodName := ⟨RX3, "clash", "(I)I"⟩
abbrev cX3_two : ByteArray := prog_1_method_30_code
def yX3_two : MethodName := ⟨RX3, "two", "()I"⟩
abbrev cX3_least : ByteArray := prog_1_method_31_code
def yX3_least : MethodName := ⟨RX3, "least", "()I"⟩
abbrev cX3_relent : ByteArray := prog_1_method_32_code
def yX3_relent : MethodName := ⟨RX3, "relent", "()I"⟩
abbrev cX3_game : ByteArray := prog_1_method_33_code
def yX3_game : MethodName := ⟨RX3, "game", "(I)I"⟩
abbrev cX3_names : ByteArray := prog_1_method_34_code
def yX3_names : MethodName := ⟨RX3, "names", "(I)I"⟩
abbrev cX3_contradict : ByteArray := prog_1_method_35_code
def yX3_contradict : MethodName := ⟨RX3, "contradict", "(I)I"⟩
abbrev cX3_fix : ByteArray := prog_1_method_36_code
def yX3_fix : MethodName := ⟨RX3, "fix", "(I)I"⟩
abbrev cX3_follows : ByteArray := prog_1_method_37_code
def yX3_follows : MethodName := ⟨RX3, "follows", "(III)I"⟩
abbrev cX3_borders : ByteArray := prog_1_method_38_code
def yX3_borders : MethodName := ⟨RX3, "borders", "(II)I"⟩
abbrev cX3_worth : ByteArray := prog_1_method_39_code
def yX3_worth : MethodName := ⟨RX3, "worth", "(I)I"⟩
abbrev cX3_falls : ByteArray := prog_1_method_40_code
def yX3_falls : MethodName := ⟨RX3, "falls", "(III)I"⟩
abbrev cX3_kinds : ByteArray := prog_1_method_41_code
def yX3_kinds : MethodName := ⟨RX3, "kinds", "(II)I"⟩
abbrev cX3_judged : ByteArray := prog_1_method_42_code
def yX3_judged : MethodName := ⟨RX3, "judged", "(II)I"⟩
abbrev cX3_odds : ByteArray := prog_1_method_43_code
def yX3_odds : MethodName := ⟨RX3, "odds", "(II)I"⟩
abbrev cX3_luck : ByteArray := prog_1_method_44_code
def yX3_luck : MethodName := ⟨RX3, "luck", "()I"⟩
abbrev cX3_lots : ByteArray := prog_1_method_45_code
def yX3_lots : MethodName := ⟨RX3, "lots", "(II)I"⟩
abbrev cX3_asked : ByteArray := prog_1_method_46_code
def yX3_asked : MethodName := ⟨RX3, "asked", "()I"⟩
abbrev cX3_upper : ByteArray := prog_1_method_47_code
def yX3_upper : MethodName := ⟨RX3, "upper", "()J"⟩
abbrev cX3_lower : ByteArray := prog_1_method_48_code
def yX3_lower : MethodName := ⟨RX3, "lower", "()J"⟩
abbrev cX3_count : ByteArray := prog_1_method_49_code
def yX3_count : MethodName := ⟨RX3, "count", "(I)I"⟩
abbrev cX3_finding : ByteArray := prog_1_method_50_code
def yX3_finding : MethodName := ⟨RX3, "finding", "()I"⟩
abbrev cX3_findings : ByteArray := prog_1_method_51_code
def yX3_findings : MethodName := ⟨RX3, "findings", "(I)I"⟩
abbrev cX3_digest : ByteArray := prog_1_method_52_code
def yX3_digest : MethodName := ⟨RX3, "digest", "()J"⟩
abbrev cX3_refuse : ByteArray := prog_1_method_53_code
def yX3_refuse : MethodName := ⟨RX3, "refuse", "(I)I"⟩
abbrev cX3_make : ByteArray := prog_1_method_54_code
def yX3_make : MethodName := ⟨RX3, "make", "(LNeitherBare$Shelf;II)I"⟩
abbrev cX3_refusedPlace : ByteArray := prog_1_method_55_code
def yX3_refusedPlace : MethodName := ⟨RX3, "refusedPlace", "(LNeitherBare$Shelf;I)I"⟩
abbrev cX3_refusedCell : ByteArray := prog_1_method_56_code
def yX3_refusedCell : MethodName := ⟨RX3, "refusedCell", "(LNeitherBare$Shelf;II)I"⟩
abbrev cX3_isClause : ByteArray := prog_1_method_57_code
def yX3_isClause : MethodName := ⟨RX3, "isClause", "(I)Z"⟩
abbrev cX3_isTrait : ByteArray := prog_1_method_58_code
def yX3_isTrait : MethodName := ⟨RX3, "isTrait", "(I)Z"⟩
abbrev cX3_isFlag : ByteArray := prog_1_method_59_code
def yX3_isFlag : MethodName := ⟨RX3, "isFlag", "(I)Z"⟩
abbrev cX3_isValue : ByteArray := prog_1_method_60_code
def yX3_isValue : MethodName := ⟨RX3, "isValue", "(I)Z"⟩
abbrev cX3_isKeepingPlace : ByteArray := prog_1_method_61_code
def yX3_isKeepingPlace : MethodName := ⟨RX3, "isKeepingPlace", "(I)Z"⟩
abbrev cX3_isBorder : ByteArray := prog_1_method_62_code
def yX3_isBorder : MethodName := ⟨RX3, "isBorder", "(III)Z"⟩
abbrev cX3_staysBelow : ByteArray := prog_1_method_63_code
def yX3_staysBelow : MethodName := ⟨RX3, "staysBelow", "(III)Z"⟩
abbrev cX3_hasBit : ByteArray := prog_1_method_64_code
def yX3_hasBit : MethodName := ⟨RX3, "hasBit", "(II)Z"⟩
abbrev cX3_isMet : ByteArray := prog_1_method_65_code
def yX3_isMet : MethodName := ⟨RX3, "isMet", "(II)Z"⟩
abbrev cX3_isOfKind : ByteArray := prog_1_method_66_code
def yX3_isOfKind : MethodName := ⟨RX3, "isOfKind", "(II)Z"⟩
abbrev cX3_clauseNumber : ByteArray := prog_1_method_67_code
def yX3_clauseNumber : MethodName := ⟨RX3, "clauseNumber", "(II)I"⟩
abbrev cX3_waysHeld : ByteArray := prog_1_method_68_code
def yX3_waysHeld : MethodName := ⟨RX3, "waysHeld", "(II)I"⟩
abbrev cX3_makersOf : ByteArray := prog_1_method_69_code
def yX3_makersOf : MethodName := ⟨RX3, "makersOf", "(I)I"⟩
abbrev cX3_halfOf : ByteArray := prog_1_method_70_code
def yX3_halfOf : MethodName := ⟨RX3, "halfOf", "(I)I"⟩
abbrev cX3_littleWays : ByteArray := prog_1_method_71_code
def yX3_littleWays : MethodName := ⟨RX3, "littleWays", "(I)I"⟩
abbrev cX3_isGood : ByteArray := prog_1_method_72_code
def yX3_isGood : MethodName := ⟨RX3, "isGood", "(I)Z"⟩
abbrev cX3_judgeWays : ByteArray := prog_1_method_73_code
def yX3_judgeWays : MethodName := ⟨RX3, "judgeWays", "([I)V"⟩
abbrev cX3_cheapestBy : ByteArray := prog_1_method_74_code
def yX3_cheapestBy : MethodName := ⟨RX3, "cheapestBy", "(I)I"⟩
abbrev cX3_isClash : ByteArray := prog_1_method_75_code
def yX3_isClash : MethodName := ⟨RX3, "isClash", "(I)Z"⟩
abbrev cX3_smallerSet : ByteArray := prog_1_method_76_code
def yX3_smallerSet : MethodName := ⟨RX3, "smallerSet", "(II)I"⟩
abbrev cX3_copyBordersToTrial : ByteArray := prog_1_method_77_code
def yX3_copyBordersToTrial : MethodName := ⟨RX3, "copyBordersToTrial", "()V"⟩
abbrev cX3_winningWays : ByteArray := prog_1_method_78_code
def yX3_winningWays : MethodName := ⟨RX3, "winningWays", "(II)J"⟩
abbrev cX3_waysMeeting : ByteArray := prog_1_method_79_code
def yX3_waysMeeting : MethodName := ⟨RX3, "waysMeeting", "(I)J"⟩
abbrev cX3_waysAhead : ByteArray := prog_1_method_80_code
def yX3_waysAhead : MethodName := ⟨RX3, "waysAhead", "(J)J"⟩
abbrev cX3_hasWayOfNone : ByteArray := prog_1_method_81_code
def yX3_hasWayOfNone : MethodName := ⟨RX3, "hasWayOfNone", "(J)Z"⟩
abbrev cX3_refusedRulings : ByteArray := prog_1_method_82_code
def yX3_refusedRulings : MethodName := ⟨RX3, "refusedRulings", "(I)I"⟩
abbrev cX3_isContradiction : ByteArray := prog_1_method_83_code
def yX3_isContradiction : MethodName := ⟨RX3, "isContradiction", "(III)Z"⟩
abbrev cX3_ruledOtherwise : ByteArray := prog_1_method_84_code
def yX3_ruledOtherwise : MethodName := ⟨RX3, "ruledOtherwise", "(III)I"⟩
abbrev cX3_struckOfTrait : ByteArray := prog_1_method_85_code
def yX3_struckOfTrait : MethodName := ⟨RX3, "struckOfTrait", "(II)I"⟩
abbrev cX3_refusedJudgements : ByteArray := prog_1_method_86_code
def yX3_refusedJudgements : MethodName := ⟨RX3, "refusedJudgements", "(I)I"⟩
abbrev cX3_isJudgedByTrial : ByteArray := prog_1_method_87_code
def yX3_isJudgedByTrial : MethodName := ⟨RX3, "isJudgedByTrial", "(II)Z"⟩
abbrev cX3_tellChance : ByteArray := prog_1_method_88_code
def yX3_tellChance : MethodName := ⟨RX3, "tellChance", "(JJ)V"⟩
abbrev cX3_countNumber : ByteArray := prog_1_method_89_code
def yX3_countNumber : MethodName := ⟨RX3, "countNumber", "(I)I"⟩
abbrev cX3_clausesOf : ByteArray := prog_1_method_90_code
def yX3_clausesOf : MethodName := ⟨RX3, "clausesOf", "(I)I"⟩
abbrev cX3_manyKept : ByteArray := prog_1_method_91_code
def yX3_manyKept : MethodName := ⟨RX3, "manyKept", "()I"⟩
abbrev cX3_mixed : ByteArray := prog_1_method_92_code
def yX3_mixed : MethodName := ⟨RX3, "mixed", "(JI)J"⟩
def RX4 : String := "NeitherBareModel"
def TX4 : u_T := fun k => match k with
  | 0 => ("NeitherBareModel", "row", "[I", true)
  | 1 => ("NeitherBareModel", "things", "I", false)
  | 2 => ("NeitherBareModel", "thing", "[I", true)
  | 3 => ("NeitherBareModel", "clauses", "I", false)
  | 4 => ("NeitherBareModel", "kinds", "[I", true)
  | 5 => ("NeitherBareModel", "traits", "[I", true)
  | 6 => ("NeitherBareModel", "others", "[I", true)
  | 7 => ("NeitherBareModel", "sizes", "[I", true)
  | 8 => ("NeitherBareModel", "items", "[I", true)
  | 9 => ("NeitherBareModel", "lengths", "[I", true)
  | 10 => ("NeitherBareModel", "bytes", "[I", true)
  | 11 => ("NeitherBareModel", "asked", "I", false)
  | 12 => ("NeitherBareModel", "upper", "J", false)
  | 13 => ("NeitherBareModel", "lower", "J", false)
  | 14 => ("NeitherBareModel", "finding", "I", false)
  | 15 => ("NeitherBareModel", "findings", "[I", true)
  | 16 => ("NeitherBareModel", "from", "I", false)
  | 17 => ("NeitherBareModel", "place", "I", false)
  | 18 => ("NeitherBareModel", "end", "I", false)
  | 19 => ("NeitherBareModel", "readThings", "[I", true)
  | 20 => ("NeitherBareModel", "readThingMany", "I", false)
  | 21 => ("NeitherBareModel", "readClauses", "[I", true)
  | 22 => ("NeitherBareModel", "readMany", "I", false)
  | 23 => ("NeitherBareModel", "wins", "[Z", true)
  | _ => ("NeitherBareModel", "laid", "[Z", true)
def tyX4 : Nat → FieldType := fun k => match k with
  | 0 => .array .int
  | 1 => .int
  | 2 => .array .int
  | 3 => .int
  | 4 => .array .int
  | 5 => .array .int
  | 6 => .array .int
  | 7 => .array .int
  | 8 => .array .int
  | 9 => .array .int
  | 10 => .array .int
  | 11 => .int
  | 12 => .long
  | 13 => .long
  | 14 => .int
  | 15 => .array .int
  | 16 => .int
  | 17 => .int
  | 18 => .int
  | 19 => .array .int
  | 20 => .int
  | 21 => .array .int
  | 22 => .int
  | 23 => .array .boolean
  | _ => .array .boolean
abbrev wsX40 : List Cond := u_ws RX4 TX4 25
theorem nmX4 : ∀ a, a < 25 → ∀ b, b < 25 → a ≠ b → (TX4 a).2.1 ≠ (TX4 b).2.1 := by decide +kernel
theorem tyX4_ok : ∀ k, k < 25 → parseFieldDescriptor (TX4 k).2.2.1 = some (tyX4 k) := by decide +kernel
abbrev cX4_init : ByteArray := prog_6_method_1_code
def yX4_init : MethodName := ⟨RX4, "<init>", "()V"⟩
abbrev cX4_begin : ByteArray := prog_6_method_2_code
def yX4_begin : MethodName := ⟨RX4, "begin", "()V"⟩
abbrev cX4_bits : ByteArray := prog_6_method_3_code
def yX4_bits : MethodName := ⟨RX4, "bits", "(I)I"⟩
abbrev cX4_in : ByteArray := prog_6_method_4_code
def yX4_in : MethodName := ⟨RX4, "in", "(JJJ)Z"⟩
abbrev cX4_has : ByteArray := prog_6_method_5_code
def yX4_has : MethodName := ⟨RX4, "has", "(II)Z"⟩
abbrev cX4_find : ByteArray := prog_6_method_6_code
def yX4_find : MethodName := ⟨RX4, "find", "(I)I"⟩
abbrev cX4_tell : ByteArray := prog_6_method_7_code
def yX4_tell : MethodName := ⟨RX4, "tell", "(I)I"⟩
abbrev cX4_isRow : ByteArray := prog_6_method_8_code
def yX4_isRow : MethodName := ⟨RX4, "isRow", "(I)Z"⟩
abbrev cX4_isText : ByteArray := prog_6_method_9_code
def yX4_isText : MethodName := ⟨RX4, "isText", "(I)Z"⟩
abbrev cX4_row : ByteArray := prog_6_method_10_code
def yX4_row : MethodName := ⟨RX4, "row", "(II)I"⟩
abbrev cX4_makeRow : ByteArray := prog_6_method_11_code
def yX4_makeRow : MethodName := ⟨RX4, "makeRow", "(II)V"⟩
abbrev cX4_refused : ByteArray := prog_6_method_12_code
def yX4_refused : MethodName := ⟨RX4, "refused", "(II)I"⟩
abbrev cX4_lay : ByteArray := prog_6_method_13_code
def yX4_lay : MethodName := ⟨RX4, "lay", "(III)I"⟩
abbrev cX4_at : ByteArray := prog_6_method_14_code
def yX4_at : MethodName := ⟨RX4, "at", "(II)I"⟩
abbrev cX4_tear : ByteArray := prog_6_method_15_code
def yX4_tear : MethodName := ⟨RX4, "tear", "(I)I"⟩
abbrev cX4_isSpan : ByteArray := prog_6_method_16_code
def yX4_isSpan : MethodName := ⟨RX4, "isSpan", "(III)Z"⟩
abbrev cX4_copy : ByteArray := prog_6_method_17_code
def yX4_copy : MethodName := ⟨RX4, "copy", "(IIIII)I"⟩
abbrev cX4_mean : ByteArray := prog_6_method_18_code
def yX4_mean : MethodName := ⟨RX4, "mean", "(I)I"⟩
abbrev cX4_text : ByteArray := prog_6_method_19_code
def yX4_text : MethodName := ⟨RX4, "text", "(II)I"⟩
abbrev cX4_put : ByteArray := prog_6_method_20_code
def yX4_put : MethodName := ⟨RX4, "put", "(III)I"⟩
abbrev cX4_here : ByteArray := prog_6_method_21_code
def yX4_here : MethodName := ⟨RX4, "here", "()I"⟩
abbrev cX4_skip : ByteArray := prog_6_method_22_code
def yX4_skip : MethodName := ⟨RX4, "skip", "()V"⟩
abbrev cX4_figure : ByteArray := prog_6_method_23_code
def yX4_figure : MethodName := ⟨RX4, "figure", "(II)I"⟩
abbrev cX4_kindOfLetter : ByteArray := prog_6_method_24_code
def yX4_kindOfLetter : MethodName := ⟨RX4, "kindOfLetter", "(I)I"⟩
abbrev cX4_readsThing : ByteArray := prog_6_method_25_code
def yX4_readsThing : MethodName := ⟨RX4, "readsThing", "()Z"⟩
abbrev cX4_isOfTwo : ByteArray := prog_6_method_26_code
def yX4_isOfTwo : MethodName := ⟨RX4, "isOfTwo", "(I)Z"⟩
abbrev cX4_readsClause : ByteArray := prog_6_method_27_code
def yX4_readsClause : MethodName := ⟨RX4, "readsClause", "()Z"⟩
abbrev cX4_faultOf : ByteArray := prog_6_method_28_code
def yX4_faultOf : MethodName := ⟨RX4, "faultOf", "(I)I"⟩
abbrev cX4_fault : ByteArray := prog_6_method_29_code
def yX4_fault : MethodName := ⟨RX4, "fault", "(I)I"⟩
abbrev cX4_court : ByteArray := prog_6_method_30_code
def yX4_court : MethodName := ⟨RX4, "court", "(I)I"⟩
abbrev cX4_isClause : ByteArray := prog_6_method_31_code
def yX4_isClause : MethodName := ⟨RX4, "isClause", "(I)Z"⟩
abbrev cX4_isTrait : ByteArray := prog_6_method_32_code
def yX4_isTrait : MethodName := ⟨RX4, "isTrait", "(I)Z"⟩
abbrev cX4_ways : ByteArray := prog_6_method_33_code
def yX4_ways : MethodName := ⟨RX4, "ways", "()I"⟩
abbrev cX4_isWay : ByteArray := prog_6_method_34_code
def yX4_isWay : MethodName := ⟨RX4, "isWay", "(I)Z"⟩
abbrev cX4_valueOf : ByteArray := prog_6_method_35_code
def yX4_valueOf : MethodName := ⟨RX4, "valueOf", "(II)I"⟩
abbrev cX4_lowerOf : ByteArray := prog_6_method_36_code
def yX4_lowerOf : MethodName := ⟨RX4, "lowerOf", "(I)I"⟩
abbrev cX4_upperOf : ByteArray := prog_6_method_37_code
def yX4_upperOf : MethodName := ⟨RX4, "upperOf", "(I)I"⟩
abbrev cX4_isMuch : ByteArray := prog_6_method_38_code
def yX4_isMuch : MethodName := ⟨RX4, "isMuch", "(II)Z"⟩
abbrev cX4_isLittle : ByteArray := prog_6_method_39_code
def yX4_isLittle : MethodName := ⟨RX4, "isLittle", "(II)Z"⟩
abbrev cX4_isBetween : ByteArray := prog_6_method_40_code
def yX4_isBetween : MethodName := ⟨RX4, "isBetween", "(II)Z"⟩
abbrev cX4_half : ByteArray := prog_6_method_41_code
def yX4_half : MethodName := ⟨RX4, "half", "(I)I"⟩
abbrev cX4_holdsOf : ByteArray := prog_6_method_42_code
def yX4_holdsOf : MethodName := ⟨RX4, "holdsOf", "(IIII)Z"⟩
abbrev cX4_holdsIn : ByteArray := prog_6_method_43_code
def yX4_holdsIn : MethodName := ⟨RX4, "holdsIn", "(II)Z"⟩
abbrev cX4_heldBy : ByteArray := prog_6_method_44_code
def yX4_heldBy : MethodName := ⟨RX4, "heldBy", "(I)I"⟩
abbrev cX4_isGood : ByteArray := prog_6_method_45_code
def yX4_isGood : MethodName := ⟨RX4, "isGood", "(I)Z"⟩
abbrev cX4_costOf : ByteArray := prog_6_method_46_code
def yX4_costOf : MethodName := ⟨RX4, "costOf", "(I)I"⟩
abbrev cX4_thing : ByteArray := prog_6_method_47_code
def yX4_thing : MethodName := ⟨RX4, "thing", "(II)I"⟩
abbrev cX4_heldMany : ByteArray := prog_6_method_48_code
def yX4_heldMany : MethodName := ⟨RX4, "heldMany", "(III)I"⟩
abbrev cX4_toldOf : ByteArray := prog_6_method_49_code
def yX4_toldOf : MethodName := ⟨RX4, "toldOf", "(II)I"⟩
abbrev cX4_clause : ByteArray := prog_6_method_50_code
def yX4_clause : MethodName := ⟨RX4, "clause", "(II)I"⟩
abbrev cX4_isOf : ByteArray := prog_6_method_51_code
def yX4_isOf : MethodName := ⟨RX4, "isOf", "(II)Z"⟩
abbrev cX4_muchAlone : ByteArray := prog_6_method_52_code
def yX4_muchAlone : MethodName := ⟨RX4, "muchAlone", "(I)I"⟩
abbrev cX4_littleMany : ByteArray := prog_6_method_53_code
def yX4_littleMany : MethodName := ⟨RX4, "littleMany", "(I)I"⟩
abbrev cX4_mark : ByteArray := prog_6_method_54_code
def yX4_mark : MethodName := ⟨RX4, "mark", "(II)I"⟩
abbrev cX4_border : ByteArray := prog_6_method_55_code
def yX4_border : MethodName := ⟨RX4, "border", "(II)I"⟩
abbrev cX4_keepPast : ByteArray := prog_6_method_56_code
def yX4_keepPast : MethodName := ⟨RX4, "keepPast", "()V"⟩
abbrev cX4_strike : ByteArray := prog_6_method_57_code
def yX4_strike : MethodName := ⟨RX4, "strike", "(II)I"⟩
abbrev cX4_isBorder : ByteArray := prog_6_method_58_code
def yX4_isBorder : MethodName := ⟨RX4, "isBorder", "(II)Z"⟩
abbrev cX4_isBelow : ByteArray := prog_6_method_59_code
def yX4_isBelow : MethodName := ⟨RX4, "isBelow", "(III)Z"⟩
abbrev cX4_move : ByteArray := prog_6_method_60_code
def yX4_move : MethodName := ⟨RX4, "move", "(III)I"⟩
abbrev cX4_undo : ByteArray := prog_6_method_61_code
def yX4_undo : MethodName := ⟨RX4, "undo", "(I)I"⟩
abbrev cX4_copyCourt : ByteArray := prog_6_method_62_code
def yX4_copyCourt : MethodName := ⟨RX4, "copyCourt", "(II)V"⟩
abbrev cX4_keep : ByteArray := prog_6_method_63_code
def yX4_keep : MethodName := ⟨RX4, "keep", "(I)I"⟩
abbrev cX4_on : ByteArray := prog_6_method_64_code
def yX4_on : MethodName := ⟨RX4, "on", "(I)I"⟩
abbrev cX4_value : ByteArray := prog_6_method_65_code
def yX4_value : MethodName := ⟨RX4, "value", "(II)I"⟩
abbrev cX4_cost : ByteArray := prog_6_method_66_code
def yX4_cost : MethodName := ⟨RX4, "cost", "(I)I"⟩
abbrev cX4_holds : ByteArray := prog_6_method_67_code
def yX4_holds : MethodName := ⟨RX4, "holds", "(I)I"⟩
abbrev cX4_goodMany : ByteArray := prog_6_method_68_code
def yX4_goodMany : MethodName := ⟨RX4, "goodMany", "()I"⟩
abbrev cX4_good : ByteArray := prog_6_method_69_code
def yX4_good : MethodName := ⟨RX4, "good", "()I"⟩
abbrev cX4_best : ByteArray := prog_6_method_70_code
def yX4_best : MethodName := ⟨RX4, "best", "(Z)I"⟩
abbrev cX4_cheapest : ByteArray := prog_6_method_71_code
def yX4_cheapest : MethodName := ⟨RX4, "cheapest", "()I"⟩
abbrev cX4_fewest : ByteArray := prog_6_method_72_code
def yX4_fewest : MethodName := ⟨RX4, "fewest", "()I"⟩
abbrev cX4_nearest : ByteArray := prog_6_method_73_code
def yX4_nearest : MethodName := ⟨RX4, "nearest", "()I"⟩
abbrev cX4_tight : ByteArray := prog_6_method_74_code
def yX4_tight : MethodName := ⟨RX4, "tight", "(I)I"⟩
abbrev cX4_clashes : ByteArray := prog_6_method_75_code
def yX4_clashes : MethodName := ⟨RX4, "clashes", "(I)Z"⟩
abbrev cX4_clash : ByteArray := prog_6_method_76_code
def yX4_clash : MethodName := ⟨RX4, "clash", "(I)I"⟩
abbrev cX4_two : ByteArray := prog_6_method_77_code
def yX4_two : MethodName := ⟨RX4, "two", "()I"⟩
abbrev cX4_least : ByteArray := prog_6_method_78_code
def yX4_least : MethodName := ⟨RX4, "least", "()I"⟩
abbrev cX4_relent : ByteArray := prog_6_method_79_code
def yX4_relent : MethodName := ⟨RX4, "relent", "()I"⟩
abbrev cX4_answers : ByteArray := prog_6_method_80_code
def yX4_answers : MethodName := ⟨RX4, "answers", "(II)Z"⟩
abbrev cX4_withstands : ByteArray := prog_6_method_81_code
def yX4_withstands : MethodName := ⟨RX4, "withstands", "(II)Z"⟩
abbrev cX4_layTurn : ByteArray := prog_6_method_82_code
def yX4_layTurn : MethodName := ⟨RX4, "layTurn", "()V"⟩
abbrev cX4_layGame : ByteArray := prog_6_method_83_code
def yX4_layGame : MethodName := ⟨RX4, "layGame", "(I)V"⟩
abbrev cX4_game : ByteArray := prog_6_method_84_code
def yX4_game : MethodName := ⟨RX4, "game", "(I)I"⟩
abbrev cX4_names : ByteArray := prog_6_method_85_code
def yX4_names : MethodName := ⟨RX4, "names", "(I)I"⟩
abbrev cX4_rule : ByteArray := prog_6_method_86_code
def yX4_rule : MethodName := ⟨RX4, "rule", "(III)I"⟩
abbrev cX4_noRulings : ByteArray := prog_6_method_87_code
def yX4_noRulings : MethodName := ⟨RX4, "noRulings", "(I)I"⟩
abbrev cX4_against : ByteArray := prog_6_method_88_code
def yX4_against : MethodName := ⟨RX4, "against", "(III)Z"⟩
abbrev cX4_contradict : ByteArray := prog_6_method_89_code
def yX4_contradict : MethodName := ⟨RX4, "contradict", "(I)I"⟩
abbrev cX4_isFixed : ByteArray := prog_6_method_90_code
def yX4_isFixed : MethodName := ⟨RX4, "isFixed", "(II)Z"⟩
abbrev cX4_fix : ByteArray := prog_6_method_91_code
def yX4_fix : MethodName := ⟨RX4, "fix", "(I)I"⟩
abbrev cX4_follows : ByteArray := prog_6_method_92_code
def yX4_follows : MethodName := ⟨RX4, "follows", "(III)I"⟩
abbrev cX4_borders : ByteArray := prog_6_method_93_code
def yX4_borders : MethodName := ⟨RX4, "borders", "(II)I"⟩
abbrev cX4_worth : ByteArray := prog_6_method_94_code
def yX4_worth : MethodName := ⟨RX4, "worth", "(I)I"⟩
abbrev cX4_falls : ByteArray := prog_6_method_95_code
def yX4_falls : MethodName := ⟨RX4, "falls", "(III)I"⟩
abbrev cX4_kinds : ByteArray := prog_6_method_96_code
def yX4_kinds : MethodName := ⟨RX4, "kinds", "(II)I"⟩
abbrev cX4_areJudged : ByteArray := prog_6_method_97_code
def yX4_areJudged : MethodName := ⟨RX4, "areJudged", "(I)Z"⟩
abbrev cX4_isJudged : ByteArray := prog_6_method_98_code
def yX4_isJudged : MethodName := ⟨RX4, "isJudged", "(II)Z"⟩
abbrev cX4_judged : ByteArray := prog_6_method_99_code
def yX4_judged : MethodName := ⟨RX4, "judged", "(II)I"⟩
abbrev cX4_tellParts : ByteArray := prog_6_method_100_code
def yX4_tellParts : MethodName := ⟨RX4, "tellParts", "(JJ)I"⟩
abbrev cX4_odds : ByteArray := prog_6_method_101_code
def yX4_odds : MethodName := ⟨RX4, "odds", "(II)I"⟩
abbrev cX4_luck : ByteArray := prog_6_method_102_code
def yX4_luck : MethodName := ⟨RX4, "luck", "()I"⟩
abbrev cX4_lots : ByteArray := prog_6_method_103_code
def yX4_lots : MethodName := ⟨RX4, "lots", "(II)I"⟩
abbrev cX4_asked : ByteArray := prog_6_method_104_code
def yX4_asked : MethodName := ⟨RX4, "asked", "()I"⟩
abbrev cX4_upper : ByteArray := prog_6_method_105_code
def yX4_upper : MethodName := ⟨RX4, "upper", "()J"⟩
abbrev cX4_lower : ByteArray := prog_6_method_106_code
def yX4_lower : MethodName := ⟨RX4, "lower", "()J"⟩
abbrev cX4_kindMany : ByteArray := prog_6_method_107_code
def yX4_kindMany : MethodName := ⟨RX4, "kindMany", "(I)I"⟩
abbrev cX4_thereOf : ByteArray := prog_6_method_108_code
def yX4_thereOf : MethodName := ⟨RX4, "thereOf", "(I)I"⟩
abbrev cX4_countOf : ByteArray := prog_6_method_109_code
def yX4_countOf : MethodName := ⟨RX4, "countOf", "(I)I"⟩
abbrev cX4_count : ByteArray := prog_6_method_110_code
def yX4_count : MethodName := ⟨RX4, "count", "(I)I"⟩
abbrev cX4_finding : ByteArray := prog_6_method_111_code
def yX4_finding : MethodName := ⟨RX4, "finding", "()I"⟩
abbrev cX4_findings : ByteArray := prog_6_method_112_code
def yX4_findings : MethodName := ⟨RX4, "findings", "(I)I"⟩
abbrev cX4_digest : ByteArray := prog_6_method_113_code
def yX4_digest : MethodName := ⟨RX4, "digest", "()J"⟩
def RJ6 : String := "java/lang/Integer"
def TJ6 : u_T := fun k => match k with
  | _ => ("", "", "", false)
def tyJ6 : Nat → FieldType := fun k => match k with
  | _ => .int
abbrev wsJ60 : List Cond := u_ws RJ6 TJ6 0
theorem nmJ6 : ∀ a, a < 0 → ∀ b, b < 0 → a ≠ b → (TJ6 a).2.1 ≠ (TJ6 b).2.1 := by decide +kernel
theorem tyJ6_ok : ∀ k, k < 0 → parseFieldDescriptor (TJ6 k).2.2.1 = some (tyJ6 k) := by decide +kernel
abbrev cJ6_compare_7cf53 : ByteArray := prog_7_method_40_code
def yJ6_compare_7cf53 : MethodName := ⟨RJ6, "compare", "(II)I"⟩
abbrev cJ6_numberOfTrailingZeros_0f7a4 : ByteArray := prog_7_method_48_code
def yJ6_numberOfTrailingZeros_0f7a4 : MethodName := ⟨RJ6, "numberOfTrailingZeros", "(I)I"⟩
abbrev cJ6_bitCount_0f7a4 : ByteArray := prog_7_method_49_code
def yJ6_bitCount_0f7a4 : MethodName := ⟨RJ6, "bitCount", "(I)I"⟩
def RJ9 : String := "java/lang/Math"
def TJ9 : u_T := fun k => match k with
  | _ => ("", "", "", false)
def tyJ9 : Nat → FieldType := fun k => match k with
  | _ => .int
abbrev wsJ90 : List Cond := u_ws RJ9 TJ9 0
theorem nmJ9 : ∀ a, a < 0 → ∀ b, b < 0 → a ≠ b → (TJ9 a).2.1 ≠ (TJ9 b).2.1 := by decide +kernel
theorem tyJ9_ok : ∀ k, k < 0 → parseFieldDescriptor (TJ9 k).2.2.1 = some (tyJ9 k) := by decide +kernel
abbrev cJ9_max_7cf53 : ByteArray := prog_8_method_65_code
def yJ9_max_7cf53 : MethodName := ⟨RJ9, "max", "(II)I"⟩
abbrev cJ9_min_7cf53 : ByteArray := prog_8_method_69_code
def yJ9_min_7cf53 : MethodName := ⟨RJ9, "min", "(II)I"⟩
def RJ10 : String := "java/lang/System"
def TJ10 : u_T := fun k => match k with
  | _ => ("", "", "", false)
def tyJ10 : Nat → FieldType := fun k => match k with
  | _ => .int
abbrev wsJ100 : List Cond := u_ws RJ10 TJ10 0
theorem nmJ10 : ∀ a, a < 0 → ∀ b, b < 0 → a ≠ b → (TJ10 a).2.1 ≠ (TJ10 b).2.1 := by decide +kernel
theorem tyJ10_ok : ∀ k, k < 0 → parseFieldDescriptor (TJ10 k).2.2.1 = some (tyJ10 k) := by decide +kernel
def RJ7 : String := "java/util/Arrays"
def TJ7 : u_T := fun k => match k with
  | _ => ("", "", "", false)
def tyJ7 : Nat → FieldType := fun k => match k with
  | _ => .int
abbrev wsJ70 : List Cond := u_ws RJ7 TJ7 0
theorem nmJ7 : ∀ a, a < 0 → ∀ b, b < 0 → a ≠ b → (TJ7 a).2.1 ≠ (TJ7 b).2.1 := by decide +kernel
theorem tyJ7_ok : ∀ k, k < 0 → parseFieldDescriptor (TJ7 k).2.2.1 = some (tyJ7 k) := by decide +kernel
abbrev cJ7_rangeCheck_23922 : ByteArray := prog_10_method_30_code
def yJ7_rangeCheck_23922 : MethodName := ⟨RJ7, "rangeCheck", "(III)V"⟩
abbrev cJ7_fill_53178 : ByteArray := prog_10_method_103_code
def yJ7_fill_53178 : MethodName := ⟨RJ7, "fill", "([II)V"⟩
abbrev cJ7_fill_fda19 : ByteArray := prog_10_method_104_code
def yJ7_fill_fda19 : MethodName := ⟨RJ7, "fill", "([IIII)V"⟩
def RL : String := "NeitherBareLaw"
abbrev cL_law : ByteArray := code
def yL_law : MethodName := ⟨RL, "law", "([I)Z"⟩
abbrev vwCl : List vw_C := [(RX0, TX0, 8), (RX1, TX1, 5), (RX2, TX2, 6), (RX3, TX3, 13), (RX4, TX4, 25)]
/-! ===== END names ===== -/
end
section
/-! ===== the machine in small: memory by labels and slots; a row of straight instructions is run by a function (xRun), and what it says is true of the machine (xRun_ok) ===== -/
def lw_g : List Cond := lw_tbl.filter goodWord
theorem lw_g_in {w : Cond} (h : w ∈ lw_g) : w ∈ lw_tbl := (List.mem_filter.mp h).1
theorem lw_g_mk {w : Cond} (h : w ∈ lw_tbl) (hg : goodWord w = true) : w ∈ lw_g := List.mem_filter.mpr ⟨h, hg⟩
theorem lw_g_good : GoodIn lw_g lw_g := fun w h => ⟨h, good_of_word (List.mem_filter.mp h).2⟩
/-- ints, longs, references (labels): by label and slot -/
abbrev xM : Type := (Nat → Nat → Int32) × (Nat → Nat → Int64) × (Nat → Nat → Option Nat)
/-- addresses of labels; classes; the classes of int[], boolean[], Standing[] -/
abbrev xG : Type := (Nat → Nat) × va_G × ClassId × ClassId × ClassId
/-- the shape of a label: 0 an object of a class, 1 int[], 2 boolean[], 3 Standing[] (length), 4 static int[], 5 static long[] -/
def xSh : Nat → Nat × Nat := fun a => ([(0, 3), (0, 1), (1, 240), (1, 6), (0, 1), (1, 320), (1, 4), (0, 0), (1, 30), (1, 320), (1, 8), (1, 8), (1, 8), (0, 0), (1, 30), (1, 320), (1, 8), (1, 8), (1, 8), (0, 2), (1, 8), (1, 40), (1, 40), (3, 3), (0, 2), (1, 8), (1, 40), (1, 40), (0, 2), (1, 8), (1, 40), (1, 40), (0, 2), (1, 8), (1, 40), (1, 40), (1, 64), (1, 8), (1, 6), (0, 4), (1, 1480), (1, 30), (1, 8), (1, 8), (1, 8), (1, 6), (1, 240), (1, 4), (1, 320), (1, 6), (1, 30), (1, 24), (2, 16384), (2, 16384), (4, 6), (4, 6), (5, 6)] : List (Nat × Nat)).getD a (9, 0)
/-- the fields of a class: 0 int (boolean), 1 long, 2 reference -/
def xKs : Nat → List Nat := fun c => ([[0, 0, 0, 2, 2, 2, 2, 2], [0, 0, 0, 2, 2], [0, 0, 0, 2, 2, 2], [2, 2, 2, 2, 2, 2, 2, 2, 2, 0, 0, 1, 1], [2, 0, 2, 0, 2, 2, 2, 2, 2, 2, 2, 0, 1, 1, 0, 2, 0, 0, 0, 2, 0, 2, 0, 2, 2]] : List (List Nat)).getD c []
def xc (G : xG) (v : Value) : Value := match v with
  | .ref k => .ref (G.1 k)
  | v => v
def xV (G : xG) (u : xM) (a k : Nat) (kd : Nat) : Value := match kd with
  | 0 => .int (u.1 a k)
  | 1 => .long (u.2.1 a k)
  | _ => xc G (va_rf (u.2.2 a k))
def xFs (G : xG) (u : xM) (ci a : Nat) : List Value := (List.range (xKs ci).length).map (fun k => xV G u a k ((xKs ci).getD k 0))
def xE (G : xG) (u : xM) (a : Nat) : va_E := match xSh a with
  | (0, ci) => .inr (ci, xFs G u ci a)
  | (1, n) => .inl (G.2.2.1, n, .inl (u.1 a))
  | (2, n) => .inl (G.2.2.2.1, n, .inl (u.1 a))
  | (_, n) => .inl (G.2.2.2.2, n, .inr (.inr (.inr (.inr (fun j => (u.2.2 a j).map G.1)))))
def xws (G : xG) (u : xM) : va_W := (List.range 54).map (fun a => (G.1 a, xE G u a))
theorem xws_at {G : xG} {u : xM} {a : Nat} (h : a < 54) : (xws G u)[a]? = some (G.1 a, xE G u a) := by
  simp [xws, h]
theorem xws_set {G : xG} {u u' : xM} {a : Nat} {e : va_E} (he : xE G u' a = e) (ho : ∀ b, b ≠ a → xE G u' b = xE G u b) : (xws G u).set a (G.1 a, e) = xws G u' := by
  apply List.ext_getElem?
  intro i
  simp only [xws, List.getElem?_set, List.getElem?_map, List.length_map, List.length_range]
  by_cases hi : i < 54
  · by_cases hai : a = i
    · subst hai
      simp [hi, he]
    · rw [if_neg hai]
      simp [hi, ho i (fun q => hai q.symm)]
  · by_cases hai : a = i
    · subst hai
      simp [hi]
    · rw [if_neg hai]
      simp [hi]
/-- a write of an int, of a long, of a reference -/
def xI (u : xM) (a k : Nat) (v : Int32) : xM := (va_up u.1 a (upd (u.1 a) k v), u.2)
def xJ (u : xM) (a k : Nat) (v : Int64) : xM := (u.1, va_up u.2.1 a (va_up (u.2.1 a) k v), u.2.2)
def xR (u : xM) (a k : Nat) (v : Option Nat) : xM := (u.1, u.2.1, va_up u.2.2 a (va_up (u.2.2 a) k v))
theorem xI_same {u : xM} {a k : Nat} {v : Int32} : (xI u a k v).1 a = upd (u.1 a) k v := by simp [xI, va_up]
theorem xI_other {u : xM} {a b k : Nat} {v : Int32} (h : b ≠ a) : (xI u a k v).1 b = u.1 b := by simp [xI, va_up, h]
theorem xJ_other {u : xM} {a b k : Nat} {v : Int64} (h : b ≠ a) : (xJ u a k v).2.1 b = u.2.1 b := by simp [xJ, va_up, h]
theorem xR_other {u : xM} {a b k : Nat} {v : Option Nat} (h : b ≠ a) : (xR u a k v).2.2 b = u.2.2 b := by simp [xR, va_up, h]
theorem xE_congr {G : xG} {u u' : xM} {b : Nat} (h1 : u'.1 b = u.1 b) (h2 : u'.2.1 b = u.2.1 b) (h3 : u'.2.2 b = u.2.2 b) : xE G u' b = xE G u b := by
  have hV : ∀ k kd, xV G u' b k kd = xV G u b k kd := by
    intro k kd
    unfold xV
    rw [h1, h2, h3]
  unfold xE xFs
  simp only [h1, h3, hV]
def xA (G : xG) : Nat → Prop := fun q => ∃ k, k < 54 ∧ q = G.1 k
abbrev xTys (G : xG) : List (ClassId × FieldType) := [(G.2.2.1, .int), (G.2.2.2.1, .boolean), (G.2.2.2.2, .object "NeitherBare$Standing")]
/-- the static arrays: PARENTS 54, LETTERS 55, WITHOUT 56 -/
def xS : Nat → Nat → Int32 := fun a j => ((if a = 54 then [-9, 0, 0, 0, 1, 2] else [99, 110, 98, 117, 104, 120] : List Int32)).getD j 0
def xSl : Nat → Int64 := fun j => ([6148914691236517205, 3689348814741910323, 1085102592571150095, 71777214294589695, 281470681808895, 4294967295] : List Int64).getD j 0
def xStat (G : xG) (U : State) (H : Heap) : Prop :=
  (va_Z "NeitherBare" "PARENTS" "[I" (.ref (G.1 54)) (xA G) U H ∧ va_T .int (G.1 54) 6 (fun j => .int (xS 54 j)) (xA G) U H) ∧
  (va_Z "NeitherBare" "LETTERS" "[I" (.ref (G.1 55)) (xA G) U H ∧ va_T .int (G.1 55) 6 (fun j => .int (xS 55 j)) (xA G) U H) ∧
  (va_Z "NeitherBare" "WITHOUT" "[J" (.ref (G.1 56)) (xA G) U H ∧ va_T .long (G.1 56) 6 (fun j => .long (xSl j)) (xA G) U H)
def xInj (G : xG) : Prop := ∀ i j, i < 54 → j < 54 → G.1 i = G.1 j → i = j
def xNst (U : State) : Prop :=
  va_Nw (.methodLinkNest RX0 74 yX3_isTrait RX3) U ∧ va_Nw (.methodLinkNest RX0 64 yX3_isOfKind RX3) U ∧ va_Nw (.fieldLinkNest RX0 61 "NeitherBare" "LETTERS" "[I" RX3) U ∧ va_Nw (.methodLinkNest RX2 28 yX3_hasBit RX3) U ∧ va_Nw (.methodLinkNest RX1 45 yX3_mixed RX3) U
def xWo (G : xG) (U : State) : Prop := va_K G.2.1 vwCl (xTys G) U ∧ xInj G ∧ xStat G U U.heap ∧ xNst U
theorem xws_D {G : xG} {u : xM} (h : xInj G) : va_D (xA G) (xws G u) := by
  have key : ∀ (k : Nat) (q : Nat × va_E), (xws G u)[k]? = some q → k < 54 ∧ q.1 = G.1 k := by
    intro k q hk
    have hl : k < 54 := by
      have := (List.getElem?_eq_some_iff.mp hk).1
      simpa [xws] using this
    rw [xws_at hl] at hk
    cases hk
    exact ⟨hl, rfl⟩
  refine ⟨fun i j p q hi hj e => ?_, fun k q hk => ?_⟩
  · obtain ⟨a1, a2⟩ := key i p hi
    obtain ⟨b1, b2⟩ := key j q hj
    exact h i j a1 b1 (by rw [← a2, ← b2, e])
  · obtain ⟨a1, a2⟩ := key k q hk
    exact ⟨k, a1, a2⟩
/-- contracts -/
def xPc (G : xG) (as : List Value) (u : xM) : Array Value → State → Prop := va_Pc (as.map (xc G)) (fun U => va_P G.2.1 vwCl (xws G u) U.heap ∧ xWo G U)
def xQc (G : xG) (o : Option Value × xM) : Array Value → State → Outcome → State → Prop := fun _ st oc t => oc = .returned (o.1.map (xc G)) ∧ va_P G.2.1 vwCl (xws G o.2) t.heap ∧ va_F (xA G) st t
def xRm (d : Nat) : Room := { frames := d, cells := 0, slots := 0, locals := 64 * d }
def xEv (y : MethodName) (cc : ByteArray) (nL : Nat) (ret : Option FieldType) (d : Nat) (as : List Value) (u : xM) (o : Option Value × xM) : Prop := ∀ (l : Launch) (G : xG), Met l y (.code y cc nL ret :: lw_g) (xRm d) (xPc G as u) (xQc G o) 0 0 (xA G)
theorem xWo_moved {G : xG} {s U : State} {H : Heap} {locs : List Loc} (h : xWo G s) (hS : va_S (xA G) s.heap H locs) (hU : U.heap = H) (hW : s.WarmedH U.vm) : xWo G U := by
  obtain ⟨hK, hI, ⟨⟨z1, t1⟩, ⟨z2, t2⟩, ⟨z3, t3⟩⟩, n1, n2, n3, n4, n5⟩ := h
  have hq : ∀ a : Nat, a < s.heap.size → ¬ xA G a → U.heap[a]? = s.heap[a]? := fun a h1 h2 => by rw [hU]; exact hS.2.1 a h1 h2
  exact ⟨va_K.moved hW.alike hK, hI, ⟨⟨(z1.kept hq).moved hW.alike, (t1.kept hq).moved hW.alike⟩, ⟨(z2.kept hq).moved hW.alike, (t2.kept hq).moved hW.alike⟩, ⟨(z3.kept hq).moved hW.alike, (t3.kept hq).moved hW.alike⟩⟩, n1.warmM hW, n2.warmM hW, n3.warmF hW, n4.warmM hW, n5.warmM hW⟩
/-- what a frame knows of its machine -/
def xCx (p : Program) (R : Room) (s : State) (m : MethodId) (args : Array Value) (meth : Method) (c : Code) (G : xG) (cc : ByteArray) (own : String) (nL : Nat) (d cells slots : Nat) : Prop :=
  p.tables.exec = Jvm.exec ∧ c.code = cc ∧ c.maxLocals = nL ∧ s.vm.findClass own = some m.cls ∧ (∀ w ∈ lw_g, w.before args s = true) ∧ xWo G s ∧ d ≤ R.frames ∧ 64 * d ≤ R.locals ∧ cells ≤ R.cells ∧ slots ≤ R.slots
abbrev xcl (G : xG) (lv : List (Nat × Value)) : List (Nat × Value) := lv.map (fun q => (q.1, xc G q.2))
/-- the rest of the walk, from a place, with locals, stack and memory: 'when the value x is there, the machine comes to it' -/
def xGo (p : Program) (l : Launch) (e : Env) (R : Room) (s : State) (m : MethodId) (args : Array Value) (below : List Frame) (meth : Method) (c : Code) (G : xG) (nL cells slots : Nat) (Q : State → Prop) (pc : Nat) (lv : List (Nat × Value)) (st : List Value) (u : xM) : Prop :=
  ∀ (H : Heap) (locs : List Loc) (ls : Array Slot), lv_has ls nL (xcl G lv) → va_P G.2.1 vwCl (xws G u) H → va_S (xA G) s.heap H locs → W p l e R s m args below meth c H locs cells slots Q (F0 m pc ls (st.map (xc G)))
/-- the words of straight instructions: the instruction; class, slot, place of its word; its constants -/
abbrev xIn : Type := Instr × (Nat × Nat × Nat) × Int32 × Int64
def xT : Nat → u_T := fun c => ([TX0, TX1, TX2, TX3, TX4] : List u_T).getD c TX0
def xTy : Nat → Nat → FieldType := fun c => ([tyX0, tyX1, tyX2, tyX3, tyX4] : List (Nat → FieldType)).getD c tyX0
def xLen : Instr → Nat
  | .bipush _ => 2
  | .sipush _ => 3
  | .ldc _ => 2
  | .ldc_w _ => 3
  | .ldc2_w _ => 3
  | .iload _ => 2
  | .lload _ => 2
  | .aload _ => 2
  | .istore _ => 2
  | .lstore _ => 2
  | .astore _ => 2
  | .iinc _ _ => 3
  | .getfield _ => 3
  | .putfield _ => 3
  | .getstatic _ => 3
  | _ => 1
def xAnn (own : String) (i : xIn) : Bool := match i.1 with
  | .iconst n => decide (Int32.ofInt n = i.2.2.1)
  | .bipush n => decide ((Int8.ofInt n).toInt32 = i.2.2.1)
  | .sipush n => decide ((Int16.ofInt n).toInt32 = i.2.2.1)
  | .iinc _ n => decide (Int32.ofInt n = i.2.2.1)
  | .lconst n => decide (Int64.ofNat (n : Nat) = i.2.2.2)
  | .ldc x => decide (lw_tbl[i.2.1.2.2]? = some (Cond.constant own x i.2.2.1))
  | .ldc_w x => decide (lw_tbl[i.2.1.2.2]? = some (Cond.constant own x i.2.2.1))
  | .ldc2_w x => decide (lw_tbl[i.2.1.2.2]? = some (Cond.constantLong own x i.2.2.2))
  | .getfield x => decide (i.2.1.1 < 5) && (decide (i.2.1.2.1 < (xKs i.2.1.1).length) && decide (lw_tbl[i.2.1.2.2]? = some (Cond.fieldLink own x (xT i.2.1.1 i.2.1.2.1).1 (xT i.2.1.1 i.2.1.2.1).2.1 (xT i.2.1.1 i.2.1.2.1).2.2.1)))
  | .putfield x => decide (i.2.1.1 < 5) && (decide (i.2.1.2.1 < (xKs i.2.1.1).length) && (decide (lw_tbl[i.2.1.2.2]? = some (Cond.fieldLink own x (xT i.2.1.1 i.2.1.2.1).1 (xT i.2.1.1 i.2.1.2.1).2.1 (xT i.2.1.1 i.2.1.2.1).2.2.1)) && !(xT i.2.1.1 i.2.1.2.1).2.2.2))
  | .getstatic x => if i.2.1.1 = 54 then decide (lw_tbl[i.2.1.2.2]? = some (Cond.fieldLink own x "NeitherBare" "PARENTS" "[I")) else if i.2.1.1 = 55 then decide (own = RX0) && decide (x = 61) else decide (i.2.1.1 = 56) && decide (lw_tbl[i.2.1.2.2]? = some (Cond.fieldLink own x "NeitherBare" "WITHOUT" "[J"))
  | .arraylength => true
  | _ => true
def xGet : List (Nat × Value) → Nat → Option Value
  | [], _ => none
  | q :: r, i => if q.1 = i then some q.2 else xGet r i
def xIns (i : Nat) (v : Value) : List (Nat × Value) → List (Nat × Value)
  | [] => [(i, v)]
  | q :: r => if q.1 < i then q :: xIns i v r else (i, v) :: q :: r
def xSet1 (lv : List (Nat × Value)) (i : Nat) (v : Value) : List (Nat × Value) := xIns i v (lv.filter (fun q => !(q.1 == i) && !(q.1 + 1 == i && q.2.category == 2)))
def xSet2 (lv : List (Nat × Value)) (i : Nat) (v : Value) : List (Nat × Value) := xIns i v (lv.filter (fun q => !(q.1 == i) && (!(q.1 == i + 1) && !(q.1 + 1 == i && q.2.category == 2))))
/-- in bounds; not nought; a truth value -/
def inb (i : Int32) (n : Nat) : Bool := decide (0 ≤ i.toInt) && decide (i.toInt < (n : Int))
def nzi (i : Int32) : Bool := !decide (i = 0)
def nzl (i : Int64) : Bool := !decide (i = 0)
def isb (i : Int32) : Bool := decide (i = 0) || decide (i = 1)
theorem inb_in {i : Int32} {n : Nat} (h : inb i n = true) : vp_in i n := by
  simp only [inb, Bool.and_eq_true, decide_eq_true_eq] at h
  exact vp_in_iff.mpr h
theorem nzi_ne {i : Int32} (h : nzi i = true) : ¬ i = 0 := by simpa [nzi] using h
theorem nzl_ne {i : Int64} (h : nzl i = true) : ¬ i = 0 := by simpa [nzl] using h
theorem isb_or {i : Int32} (h : isb i = true) : i = 0 ∨ i = 1 := by simpa [isb] using h
def xStep (nL : Nat) (i : xIn) (lv : List (Nat × Value)) (st : List Value) (u : xM) : Option (Option Bool × List (Nat × Value) × List Value × xM) :=
  match i.1 with
  | .iconst _ => some (none, lv, .int i.2.2.1 :: st, u)
  | .bipush _ => some (none, lv, .int i.2.2.1 :: st, u)
  | .sipush _ => some (none, lv, .int i.2.2.1 :: st, u)
  | .ldc _ => some (none, lv, .int i.2.2.1 :: st, u)
  | .ldc_w _ => some (none, lv, .int i.2.2.1 :: st, u)
  | .lconst _ => some (none, lv, .long i.2.2.2 :: st, u)
  | .ldc2_w _ => some (none, lv, .long i.2.2.2 :: st, u)
  | .iload k => (match xGet lv k with
    | some (.int x) => some (none, lv, .int x :: st, u)
    | _ => none)
  | .iload_n k => (match xGet lv k with
    | some (.int x) => some (none, lv, .int x :: st, u)
    | _ => none)
  | .lload k => (match xGet lv k with
    | some (.long x) => some (none, lv, .long x :: st, u)
    | _ => none)
  | .lload_n k => (match xGet lv k with
    | some (.long x) => some (none, lv, .long x :: st, u)
    | _ => none)
  | .aload k => (match xGet lv k with
    | some (.ref x) => some (none, lv, .ref x :: st, u)
    | _ => none)
  | .aload_n k => (match xGet lv k with
    | some (.ref x) => some (none, lv, .ref x :: st, u)
    | _ => none)
  | .istore k => (match st with
    | .int x :: r => if k < nL then some (none, xSet1 lv k (.int x), r, u) else none
    | _ => none)
  | .istore_n k => (match st with
    | .int x :: r => if (k : Nat) < nL then some (none, xSet1 lv k (.int x), r, u) else none
    | _ => none)
  | .astore_n k => (match st with
    | .ref x :: r => if (k : Nat) < nL then some (none, xSet1 lv k (.ref x), r, u) else none
    | _ => none)
  | .lstore k => (match st with
    | .long x :: r => if k + 1 < nL then some (none, xSet2 lv k (.long x), r, u) else none
    | _ => none)
  | .lstore_n k => (match st with
    | .long x :: r => if (k : Nat) + 1 < nL then some (none, xSet2 lv k (.long x), r, u) else none
    | _ => none)
  | .iinc k _ => (match xGet lv k with
    | some (.int x) => if k < nL then some (none, xSet1 lv k (.int (x + i.2.2.1)), st, u) else none
    | _ => none)
  | .iadd => (match st with
    | .int y :: .int x :: r => some (none, lv, .int (x + y) :: r, u)
    | _ => none)
  | .isub => (match st with
    | .int y :: .int x :: r => some (none, lv, .int (x - y) :: r, u)
    | _ => none)
  | .imul => (match st with
    | .int y :: .int x :: r => some (none, lv, .int (x * y) :: r, u)
    | _ => none)
  | .idiv => (match st with
    | .int y :: .int x :: r => some (some (nzi y), lv, .int (x / y) :: r, u)
    | _ => none)
  | .irem => (match st with
    | .int y :: .int x :: r => some (some (nzi y), lv, .int (x - x / y * y) :: r, u)
    | _ => none)
  | .iand => (match st with
    | .int y :: .int x :: r => some (none, lv, .int (x &&& y) :: r, u)
    | _ => none)
  | .ior => (match st with
    | .int y :: .int x :: r => some (none, lv, .int (x ||| y) :: r, u)
    | _ => none)
  | .ixor => (match st with
    | .int y :: .int x :: r => some (none, lv, .int (x ^^^ y) :: r, u)
    | _ => none)
  | .ishl => (match st with
    | .int y :: .int x :: r => some (none, lv, .int (x <<< (y &&& 31)) :: r, u)
    | _ => none)
  | .ishr => (match st with
    | .int y :: .int x :: r => some (none, lv, .int (x >>> (y &&& 31)) :: r, u)
    | _ => none)
  | .iushr => (match st with
    | .int y :: .int x :: r => some (none, lv, .int ((x.toUInt32 >>> (y.toUInt32 &&& Int32.toUInt32 31)).toInt32) :: r, u)
    | _ => none)
  | .ladd => (match st with
    | .long y :: .long x :: r => some (none, lv, .long (x + y) :: r, u)
    | _ => none)
  | .lmul => (match st with
    | .long y :: .long x :: r => some (none, lv, .long (x * y) :: r, u)
    | _ => none)
  | .ldiv => (match st with
    | .long y :: .long x :: r => some (some (nzl y), lv, .long (x / y) :: r, u)
    | _ => none)
  | .lrem => (match st with
    | .long y :: .long x :: r => some (some (nzl y), lv, .long (x - x / y * y) :: r, u)
    | _ => none)
  | .land => (match st with
    | .long y :: .long x :: r => some (none, lv, .long (x &&& y) :: r, u)
    | _ => none)
  | .lor => (match st with
    | .long y :: .long x :: r => some (none, lv, .long (x ||| y) :: r, u)
    | _ => none)
  | .lshl => (match st with
    | .int y :: .long x :: r => some (none, lv, .long (x <<< (y.toInt64 &&& 63)) :: r, u)
    | _ => none)
  | .lushr => (match st with
    | .int y :: .long x :: r => some (none, lv, .long ((x.toUInt64 >>> (y.toInt64.toUInt64 &&& Int64.toUInt64 63)).toInt64) :: r, u)
    | _ => none)
  | .lcmp => (match st with
    | .long y :: .long x :: r => some (none, lv, .int (lg_cmp x y) :: r, u)
    | _ => none)
  | .i2l => (match st with
    | .int x :: r => some (none, lv, .long x.toInt64 :: r, u)
    | _ => none)
  | .l2i => (match st with
    | .long x :: r => some (none, lv, .int x.toInt32 :: r, u)
    | _ => none)
  | .i2b => (match st with
    | .int x :: r => some (none, lv, .int x.toInt8.toInt32 :: r, u)
    | _ => none)
  | .dup => (match st with
    | .int x :: r => some (none, lv, .int x :: .int x :: r, u)
    | .ref x :: r => some (none, lv, .ref x :: .ref x :: r, u)
    | _ => none)
  | .dup2 => (match st with
    | .int y :: .ref x :: r => some (none, lv, .int y :: .ref x :: .int y :: .ref x :: r, u)
    | _ => none)
  | .getfield _ => (match st with
    | .ref a :: r => if xSh a = (0, i.2.1.1) ∧ a < 54 then (match (xKs i.2.1.1).getD i.2.1.2.1 0 with
      | 0 => some (none, lv, .int (u.1 a i.2.1.2.1) :: r, u)
      | 1 => some (none, lv, .long (u.2.1 a i.2.1.2.1) :: r, u)
      | _ => some (none, lv, va_rf (u.2.2 a i.2.1.2.1) :: r, u)) else none
    | _ => none)
  | .putfield _ => (match st with
    | .int x :: .ref a :: r => if xSh a = (0, i.2.1.1) ∧ a < 54 then (if xTy i.2.1.1 i.2.1.2.1 = .int then some (none, lv, r, xI u a i.2.1.2.1 x) else if xTy i.2.1.1 i.2.1.2.1 = .boolean then some (some (isb x), lv, r, xI u a i.2.1.2.1 x) else none) else none
    | .long x :: .ref a :: r => if xSh a = (0, i.2.1.1) ∧ a < 54 then (if xTy i.2.1.1 i.2.1.2.1 = .long then some (none, lv, r, xJ u a i.2.1.2.1 x) else none) else none
    | .ref x :: .ref a :: r => if xSh a = (0, i.2.1.1) ∧ a < 54 then (if xTy i.2.1.1 i.2.1.2.1 = .object "NeitherBare$Court" then some (none, lv, r, xR u a i.2.1.2.1 (some x)) else none) else none
    | _ => none)
  | .iaload => (match st with
    | .int j :: .ref a :: r => (match xSh a with
      | (1, n) => if a < 54 then some (some (inb j n), lv, .int (u.1 a j.toNatClampNeg) :: r, u) else none
      | (4, n) => if a = 54 ∨ a = 55 then some (some (inb j 6), lv, .int (xS a j.toNatClampNeg) :: r, u) else none
      | _ => none)
    | _ => none)
  | .laload => (match st with
    | .int j :: .ref a :: r => if a = 56 then some (some (inb j 6), lv, .long (xSl j.toNatClampNeg) :: r, u) else none
    | _ => none)
  | .baload => (match st with
    | .int j :: .ref a :: r => (match xSh a with
      | (2, n) => if a < 54 then some (some (inb j n), lv, .int (u.1 a j.toNatClampNeg) :: r, u) else none
      | _ => none)
    | _ => none)
  | .iastore => (match st with
    | .int x :: .int j :: .ref a :: r => (match xSh a with
      | (1, n) => if a < 54 then some (some (inb j n), lv, r, xI u a j.toNatClampNeg x) else none
      | _ => none)
    | _ => none)
  | .bastore => (match st with
    | .int x :: .int j :: .ref a :: r => (match xSh a with
      | (2, n) => if a < 54 then some (some (inb j n), lv, r, xI u a j.toNatClampNeg (vp_nar .boolean x)) else none
      | _ => none)
    | _ => none)
  | .arraylength => (match st with
    | .ref a :: r => (match xSh a with
      | (1, n) => if a < 54 then some (none, lv, .int (Int32.ofNat n) :: r, u) else none
      | _ => none)
    | _ => none)
  | .getstatic _ => some (none, lv, .ref i.2.1.1 :: st, u)
  | _ => none
def xRun (nL : Nat) : List xIn → Nat → List (Nat × Value) → List Value → xM → Option (List Bool × Nat × List (Nat × Value) × List Value × xM)
  | [], pc, lv, st, u => some ([], pc, lv, st, u)
  | i :: is, pc, lv, st, u => (match xStep nL i lv st u with
    | some (none, lv1, st1, u1) => xRun nL is (pc + xLen i.1) lv1 st1 u1
    | some (some b, lv1, st1, u1) => (match xRun nL is (pc + xLen i.1) lv1 st1 u1 with
      | some (bs, z) => some (b :: bs, z)
      | none => none)
    | none => none)
def xOk (own : String) (cc : ByteArray) : Nat → List xIn → Bool
  | _, [] => true
  | pc, i :: is => decide (decode cc pc = .ok (i.1, xLen i.1)) && (xAnn own i && xOk own cc (pc + xLen i.1) is)
end
section
/-! ===== what xStep says is true of the machine ===== -/
theorem lv_mono {ls : Array Slot} {n : Nat} {l l' : List (Nat × Value)} (h : lv_has ls n l) (hm : ∀ q ∈ l', q ∈ l) : lv_has ls n l' := ⟨h.1, h.2.1, fun q hq => h.2.2 q (hm q hq)⟩
theorem xGet_mem {lv : List (Nat × Value)} {i : Nat} {v : Value} (h : xGet lv i = some v) : (i, v) ∈ lv := by
  induction lv with
  | nil => cases h
  | cons q r ih =>
    simp only [xGet] at h
    split at h
    · rename_i he
      cases h
      rw [← he]
      exact List.mem_cons_self
    · exact List.mem_cons_of_mem _ (ih h)
theorem xGet_has {G : xG} {lv : List (Nat × Value)} {i : Nat} {v : Value} {ls : Array Slot} {n : Nat} (h : xGet lv i = some v) (hl : lv_has ls n (xcl G lv)) : ls[i]? = some (.val (xc G v)) := hl.2.2 (i, xc G v) (List.mem_map.mpr ⟨(i, v), xGet_mem h, rfl⟩)
theorem xc_cat (G : xG) (v : Value) : (xc G v).category = v.category := by
  cases v <;> rfl
theorem xIns_mem {i : Nat} {v : Value} {l : List (Nat × Value)} {q : Nat × Value} (h : q ∈ xIns i v l) : q = (i, v) ∨ q ∈ l := by
  induction l with
  | nil => simpa [xIns] using h
  | cons a r ih =>
    simp only [xIns] at h
    split at h
    · rcases List.mem_cons.mp h with h | h
      · exact Or.inr (by rw [h]; exact List.mem_cons_self)
      · rcases ih h with h | h
        · exact Or.inl h
        · exact Or.inr (List.mem_cons_of_mem _ h)
    · rcases List.mem_cons.mp h with h | h
      · exact Or.inl h
      · exact Or.inr h
theorem xSet_has {G : xG} {lv : List (Nat × Value)} {i : Nat} {v : Value} {ls : Array Slot} {n : Nat} (P : Nat → Nat → Bool) (hl : lv_has ls n ((i, xc G v) :: (xcl G lv).filter (fun q => P q.1 q.2.category))) : lv_has ls n (xcl G (xIns i v (lv.filter (fun q => P q.1 q.2.category)))) := by
  refine lv_mono hl fun q hq => ?_
  obtain ⟨z, hz, rfl⟩ := List.mem_map.mp hq
  rcases xIns_mem hz with rfl | hz
  · exact List.mem_cons_self
  · obtain ⟨h1, h2⟩ := List.mem_filter.mp hz
    refine List.mem_cons_of_mem _ (List.mem_filter.mpr ⟨List.mem_map.mpr ⟨z, h1, rfl⟩, ?_⟩)
    show P z.1 (xc G z.2).category = true
    rw [xc_cat]
    exact h2
def xRn : Nat → String := fun c => ([RX0, RX1, RX2, RX3, RX4] : List String).getD c RX0
theorem xCl_at : ∀ c, c < 5 → vwCl[c]? = some (xRn c, xT c, (xKs c).length) := by
  intro c hc
  match c, hc with
  | 0, _ => rfl
  | 1, _ => rfl
  | 2, _ => rfl
  | 3, _ => rfl
  | 4, _ => rfl
  | k + 5, h => exact absurd h (by omega)
theorem xW0 : ∀ w ∈ u_ws RX0 TX0 8, w ∈ lw_tbl ∧ goodWord w = true := by decide +kernel
theorem xW1 : ∀ w ∈ u_ws RX1 TX1 5, w ∈ lw_tbl ∧ goodWord w = true := by decide +kernel
theorem xW2 : ∀ w ∈ u_ws RX2 TX2 6, w ∈ lw_tbl ∧ goodWord w = true := by decide +kernel
theorem xW3 : ∀ w ∈ u_ws RX3 TX3 13, w ∈ lw_tbl ∧ goodWord w = true := by decide +kernel
theorem xW4 : ∀ w ∈ u_ws RX4 TX4 25, w ∈ lw_tbl ∧ goodWord w = true := by decide +kernel
theorem xWs : ∀ c, c < 5 → ∀ w ∈ u_ws (xRn c) (xT c) (xKs c).length, w ∈ lw_g := by
  intro c hc
  match c, hc with
  | 0, _ => exact fun w h => lw_g_mk (xW0 w h).1 (xW0 w h).2
  | 1, _ => exact fun w h => lw_g_mk (xW1 w h).1 (xW1 w h).2
  | 2, _ => exact fun w h => lw_g_mk (xW2 w h).1 (xW2 w h).2
  | 3, _ => exact fun w h => lw_g_mk (xW3 w h).1 (xW3 w h).2
  | 4, _ => exact fun w h => lw_g_mk (xW4 w h).1 (xW4 w h).2
  | k + 5, h => exact absurd h (by omega)
theorem xTy_ok : ∀ c, c < 5 → ∀ k, k < (xKs c).length → parseFieldDescriptor (xT c k).2.2.1 = some (xTy c k) := by
  intro c hc
  match c, hc with
  | 0, _ => exact tyX0_ok
  | 1, _ => exact tyX1_ok
  | 2, _ => exact tyX2_ok
  | 3, _ => exact tyX3_ok
  | 4, _ => exact tyX4_ok
  | k + 5, h => exact absurd h (by omega)
theorem xNm_ok : ∀ c, c < 5 → ∀ a, a < (xKs c).length → ∀ b, b < (xKs c).length → a ≠ b → (xT c a).2.1 ≠ (xT c b).2.1 := by
  intro c hc
  match c, hc with
  | 0, _ => exact nmX0
  | 1, _ => exact nmX1
  | 2, _ => exact nmX2
  | 3, _ => exact nmX3
  | 4, _ => exact nmX4
  | k + 5, h => exact absurd h (by omega)
theorem xTyK : ∀ c, c < 5 → ∀ k, k < (xKs c).length → (xTy c k = .int → (xKs c).getD k 0 = 0) ∧ (xTy c k = .boolean → (xKs c).getD k 0 = 0) ∧ (xTy c k = .long → (xKs c).getD k 0 = 1) ∧ (xTy c k = .object "NeitherBare$Court" → (xKs c).getD k 0 = 2) := by decide +kernel
theorem xE_obj {G : xG} {u : xM} {a ci : Nat} (h : xSh a = (0, ci)) : xE G u a = .inr (ci, xFs G u ci a) := by
  unfold xE
  rw [h]
  rfl
theorem xE_int {G : xG} {u : xM} {a n : Nat} (h : xSh a = (1, n)) : xE G u a = .inl (G.2.2.1, n, .inl (u.1 a)) := by
  unfold xE
  rw [h]
  rfl
theorem xE_bool {G : xG} {u : xM} {a n : Nat} (h : xSh a = (2, n)) : xE G u a = .inl (G.2.2.2.1, n, .inl (u.1 a)) := by
  unfold xE
  rw [h]
  rfl
theorem xE_ref {G : xG} {u : xM} {a n : Nat} (h : xSh a = (3, n)) : xE G u a = .inl (G.2.2.2.2, n, .inr (.inr (.inr (.inr (fun j => (u.2.2 a j).map G.1))))) := by
  unfold xE
  rw [h]
  rfl
theorem xFs_at {G : xG} {u : xM} {ci a k : Nat} (h : k < (xKs ci).length) : (xFs G u ci a)[k]? = some (xV G u a k ((xKs ci).getD k 0)) := by
  simp [xFs, h]
theorem xFs_len {G : xG} {u : xM} {ci a : Nat} : (xFs G u ci a).length = (xKs ci).length := by simp [xFs]
theorem xFs_set {G : xG} {u u' : xM} {ci a k : Nat} {v : Value} (hk : xV G u' a k ((xKs ci).getD k 0) = v) (ho : ∀ j kd, j ≠ k → xV G u' a j kd = xV G u a j kd) : xFs G u' ci a = (xFs G u ci a).set k v := by
  apply List.ext_getElem?
  intro i
  simp only [List.getElem?_set, xFs_len]
  by_cases hi : i < (xKs ci).length
  · rw [xFs_at hi]
    by_cases hki : k = i
    · subst hki
      rw [if_pos rfl, if_pos hi, hk]
    · rw [if_neg hki, xFs_at hi, ho i _ (fun q => hki q.symm)]
  · have h1 : (xFs G u' ci a)[i]? = none := List.getElem?_eq_none (by rw [xFs_len]; omega)
    have h2 : (xFs G u ci a)[i]? = none := List.getElem?_eq_none (by rw [xFs_len]; omega)
    rw [h1, h2]
    by_cases hki : k = i
    · rw [if_pos hki, if_neg (by omega)]
    · rw [if_neg hki]
theorem xV_I {G : xG} {u : xM} {a k j kd : Nat} {v : Int32} (h : j ≠ k) : xV G (xI u a k v) a j kd = xV G u a j kd := by
  unfold xV
  simp [xI, va_up, upd, h]
theorem xV_J {G : xG} {u : xM} {a k j kd : Nat} {v : Int64} (h : j ≠ k) : xV G (xJ u a k v) a j kd = xV G u a j kd := by
  unfold xV
  simp [xJ, va_up, h]
theorem xV_R {G : xG} {u : xM} {a k j kd : Nat} {v : Option Nat} (h : j ≠ k) : xV G (xR u a k v) a j kd = xV G u a j kd := by
  unfold xV
  simp [xR, va_up, h]
theorem xI_E {G : xG} {u : xM} {a k : Nat} {v : Int32} : ∀ b, b ≠ a → xE G (xI u a k v) b = xE G u b := fun b h => xE_congr (xI_other h) rfl rfl
theorem xJ_E {G : xG} {u : xM} {a k : Nat} {v : Int64} : ∀ b, b ≠ a → xE G (xJ u a k v) b = xE G u b := fun b h => xE_congr rfl (xJ_other h) rfl
theorem xR_E {G : xG} {u : xM} {a k : Nat} {v : Option Nat} : ∀ b, b ≠ a → xE G (xR u a k v) b = xE G u b := fun b h => xE_congr rfl rfl (xR_other h)
theorem xLk {w : Cond} {n : Nat} (h : lw_tbl[n]? = some w) (hg : goodWord w = true) : w ∈ lw_g := lw_g_mk (List.mem_of_getElem? h) hg
theorem xb_t {b : Bool} (h : some b ≠ some false) : b = true := by
  cases b
  · exact absurd rfl h
  · rfl
section XS
variable {p : Program} {l : Launch} {e : Env} {R : Room} {s : State} {m : MethodId} {args : Array Value} {below : List Frame} {meth : Method} {c : Code} {G : xG} {cc : ByteArray} {own : String} {nL d cells slots : Nat} {Q : State → Prop}
set_option maxHeartbeats 4000000 in
theorem xStep_ok (C : xCx p R s m args meth c G cc own nL d cells slots) {i : xIn} {pc : Nat} {lv lv' : List (Nat × Value)} {st st' : List Value} {u u' : xM} {b : Option Bool} (hd : decode cc pc = .ok (i.1, xLen i.1)) (ha : xAnn own i = true) (h : xStep nL i lv st u = some (b, lv', st', u')) (hb : b ≠ some false) (kk : xGo p l e R s m args below meth c G nL cells slots Q (pc + xLen i.1) lv' st' u') : xGo p l e R s m args below meth c G nL cells slots Q pc lv st u := by
  obtain ⟨hx, hbc, hml, hown, hts, hWo, -⟩ := C
  obtain ⟨ins, ⟨a1, a2, a3⟩, vi, vl⟩ := i
  obtain ⟨hK, hI, hStat, hN⟩ := id hWo
  intro H locs ls hl hP hS
  have hD : va_D (xA G) (xws G u) := xws_D hI
  cases ins with
  | iconst n =>
    simp only [xStep] at h
    cases h
    simp only [xAnn, decide_eq_true_eq] at ha
    exact lv_iconst hx hbc hd ha (kk H locs ls hl hP hS)
  | bipush n =>
    simp only [xStep] at h
    cases h
    simp only [xAnn, decide_eq_true_eq] at ha
    exact lv_bipush hx hbc hd ha (kk H locs ls hl hP hS)
  | sipush n =>
    simp only [xStep] at h
    cases h
    simp only [xAnn, decide_eq_true_eq] at ha
    exact lv_sipush hx hbc hd ha (kk H locs ls hl hP hS)
  | lconst n =>
    simp only [xStep] at h
    cases h
    simp only [xAnn, decide_eq_true_eq] at ha
    exact lv_lconst hx hbc hd ha (kk H locs ls hl hP hS)
  | ldc x =>
    simp only [xStep] at h
    cases h
    simp only [xAnn, decide_eq_true_eq] at ha
    exact lv_ldc hx hbc hown (hts _ (xLk ha rfl)) hd (kk H locs ls hl hP hS)
  | ldc_w x =>
    simp only [xStep] at h
    cases h
    simp only [xAnn, decide_eq_true_eq] at ha
    exact lv_ldcw hx hbc hown (hts _ (xLk ha rfl)) hd (kk H locs ls hl hP hS)
  | ldc2_w x =>
    simp only [xStep] at h
    cases h
    simp only [xAnn, decide_eq_true_eq] at ha
    exact lv_ldc2 hx hbc hown (hts _ (xLk ha rfl)) hd (kk H locs ls hl hP hS)
  | iload k =>
    simp only [xStep] at h
    split at h
    · rename_i x hg
      cases h
      exact lv_iload hx hbc hd (xGet_has hg hl) (kk H locs ls hl hP hS)
    · cases h
  | lload k =>
    simp only [xStep] at h
    split at h
    · rename_i x hg
      cases h
      exact lv_lload hx hbc hd (xGet_has hg hl) (kk H locs ls hl hP hS)
    · cases h
  | aload k =>
    simp only [xStep] at h
    split at h
    · rename_i x hg
      cases h
      exact lv_aload hx hbc hd (xGet_has hg hl) (kk H locs ls hl hP hS)
    · cases h
  | iload_n k =>
    simp only [xStep] at h
    split at h
    · rename_i x hg
      cases h
      exact lv_iload_n hx hbc hd rfl (xGet_has hg hl) (kk H locs ls hl hP hS)
    · cases h
  | lload_n k =>
    simp only [xStep] at h
    split at h
    · rename_i x hg
      cases h
      exact lv_lload_n hx hbc hd rfl (xGet_has hg hl) (kk H locs ls hl hP hS)
    · cases h
  | aload_n k =>
    simp only [xStep] at h
    split at h
    · rename_i x hg
      cases h
      exact lv_aload_n hx hbc hd rfl (xGet_has hg hl) (kk H locs ls hl hP hS)
    · cases h
  | istore k =>
    simp only [xStep] at h
    split at h
    · split at h
      · rename_i hlt
        cases h
        exact lv_istore hx hbc hd hl hlt rfl (fun ls' hl' => kk H locs ls' (xSet_has (fun a b => !(a == (k : Nat)) && !(a + 1 == (k : Nat) && b == 2)) hl') hP hS)
      · cases h
    · cases h
  | istore_n k =>
    simp only [xStep] at h
    split at h
    · split at h
      · rename_i hlt
        cases h
        exact lv_istore_n hx hbc hd rfl hl hlt rfl (fun ls' hl' => kk H locs ls' (xSet_has (fun a b => !(a == (k : Nat)) && !(a + 1 == (k : Nat) && b == 2)) hl') hP hS)
      · cases h
    · cases h
  | astore_n k =>
    simp only [xStep] at h
    split at h
    · split at h
      · rename_i hlt
        cases h
        exact lv_astore_n hx hbc hd rfl hl hlt rfl (fun ls' hl' => kk H locs ls' (xSet_has (fun a b => !(a == (k : Nat)) && !(a + 1 == (k : Nat) && b == 2)) hl') hP hS)
      · cases h
    · cases h
  | lstore k =>
    simp only [xStep] at h
    split at h
    · split at h
      · rename_i hlt
        cases h
        exact lv_lstore hx hbc hd hl hlt rfl (fun ls' hl' => kk H locs ls' (xSet_has (fun a b => !(a == (k : Nat)) && (!(a == (k : Nat) + 1) && !(a + 1 == (k : Nat) && b == 2))) hl') hP hS)
      · cases h
    · cases h
  | lstore_n k =>
    simp only [xStep] at h
    split at h
    · split at h
      · rename_i hlt
        cases h
        exact lv_lstore_n hx hbc hd rfl hl hlt rfl (fun ls' hl' => kk H locs ls' (xSet_has (fun a b => !(a == (k : Nat)) && (!(a == (k : Nat) + 1) && !(a + 1 == (k : Nat) && b == 2))) hl') hP hS)
      · cases h
    · cases h
  | iinc k n =>
    simp only [xStep] at h
    split at h
    · rename_i x hg
      split at h
      · rename_i hlt
        cases h
        simp only [xAnn, decide_eq_true_eq] at ha
        obtain ⟨j, hj⟩ := List.getElem?_of_mem (List.mem_map.mpr ⟨(k, Value.int x), xGet_mem hg, rfl⟩ : (k, Value.int x) ∈ xcl G lv)
        exact lv_iinc hx hbc hd hl hj (by rw [ha]) hlt rfl (fun ls' hl' => kk H locs ls' (xSet_has (fun a b => !(a == (k : Nat)) && !(a + 1 == (k : Nat) && b == 2)) hl') hP hS)
      · cases h
    · cases h
  | iadd =>
    simp only [xStep] at h
    split at h
    · cases h
      exact lv_iadd hx hbc hd (kk H locs ls hl hP hS)
    · cases h
  | isub =>
    simp only [xStep] at h
    split at h
    · cases h
      exact lv_isub hx hbc hd (kk H locs ls hl hP hS)
    · cases h
  | imul =>
    simp only [xStep] at h
    split at h
    · cases h
      exact lv_imul hx hbc hd (kk H locs ls hl hP hS)
    · cases h
  | iand =>
    simp only [xStep] at h
    split at h
    · cases h
      exact lv_iand hx hbc hd (kk H locs ls hl hP hS)
    · cases h
  | ior =>
    simp only [xStep] at h
    split at h
    · cases h
      exact lv_ior hx hbc hd (kk H locs ls hl hP hS)
    · cases h
  | ixor =>
    simp only [xStep] at h
    split at h
    · cases h
      exact lv_ixor hx hbc hd (kk H locs ls hl hP hS)
    · cases h
  | ishl =>
    simp only [xStep] at h
    split at h
    · cases h
      exact lv_ishl hx hbc hd (kk H locs ls hl hP hS)
    · cases h
  | ishr =>
    simp only [xStep] at h
    split at h
    · cases h
      exact lv_ishr hx hbc hd (kk H locs ls hl hP hS)
    · cases h
  | ladd =>
    simp only [xStep] at h
    split at h
    · cases h
      exact lv_ladd hx hbc hd (kk H locs ls hl hP hS)
    · cases h
  | lmul =>
    simp only [xStep] at h
    split at h
    · cases h
      exact lv_lmul hx hbc hd (kk H locs ls hl hP hS)
    · cases h
  | land =>
    simp only [xStep] at h
    split at h
    · cases h
      exact lv_land hx hbc hd (kk H locs ls hl hP hS)
    · cases h
  | lor =>
    simp only [xStep] at h
    split at h
    · cases h
      exact lv_lor hx hbc hd (kk H locs ls hl hP hS)
    · cases h
  | iushr =>
    simp only [xStep] at h
    split at h
    · cases h
      exact lv_iushr hx hbc hd rfl (kk H locs ls hl hP hS)
    · cases h
  | lshl =>
    simp only [xStep] at h
    split at h
    · cases h
      exact lv_lshl hx hbc hd rfl (kk H locs ls hl hP hS)
    · cases h
  | lushr =>
    simp only [xStep] at h
    split at h
    · cases h
      exact lv_lushr hx hbc hd rfl (kk H locs ls hl hP hS)
    · cases h
  | i2l =>
    simp only [xStep] at h
    split at h
    · cases h
      exact lv_i2l hx hbc hd rfl (kk H locs ls hl hP hS)
    · cases h
  | l2i =>
    simp only [xStep] at h
    split at h
    · cases h
      exact lv_l2i hx hbc hd rfl (kk H locs ls hl hP hS)
    · cases h
  | i2b =>
    simp only [xStep] at h
    split at h
    · cases h
      exact lv_i2b hx hbc hd rfl (kk H locs ls hl hP hS)
    · cases h
  | idiv =>
    simp only [xStep] at h
    split at h
    · cases h
      exact lv_idiv hx hbc hd (nzi_ne (xb_t hb)) (kk H locs ls hl hP hS)
    · cases h
  | irem =>
    simp only [xStep] at h
    split at h
    · cases h
      exact lv_irem hx hbc hd (nzi_ne (xb_t hb)) (kk H locs ls hl hP hS)
    · cases h
  | ldiv =>
    simp only [xStep] at h
    split at h
    · cases h
      exact lv_ldiv hx hbc hd (nzl_ne (xb_t hb)) (kk H locs ls hl hP hS)
    · cases h
  | lrem =>
    simp only [xStep] at h
    split at h
    · cases h
      exact lv_lrem hx hbc hd (nzl_ne (xb_t hb)) (kk H locs ls hl hP hS)
    · cases h
  | lcmp =>
    simp only [xStep] at h
    split at h
    · cases h
      exact W.lcmp hx hbc hd (kk H locs ls hl hP hS)
    · cases h
  | dup =>
    simp only [xStep] at h
    split at h
    · cases h
      exact lv_dup hx hbc hd rfl (kk H locs ls hl hP hS)
    · cases h
      exact lv_dup hx hbc hd rfl (kk H locs ls hl hP hS)
    · cases h
  | dup2 =>
    simp only [xStep] at h
    split at h
    · cases h
      exact lv_dup2_11 hx hbc hd rfl rfl (kk H locs ls hl hP hS)
    · cases h
  | getfield x =>
    simp only [xAnn, Bool.and_eq_true, decide_eq_true_eq] at ha
    obtain ⟨h5, hk, hw⟩ := ha
    simp only [xStep] at h
    split at h
    · rename_i a r
      split at h
      · rename_i hsh
        have he : (xws G u)[a]? = some (G.1 a, .inr (a1, xFs G u a1 a)) := by rw [xws_at hsh.2, xE_obj hsh.1]
        have hv := xFs_at (G := G) (u := u) (ci := a1) (a := a) hk
        split at h
        · rename_i hkd
          cases h
          rw [hkd] at hv
          exact va_get hx hbc hts (xWs a1 h5) hown hK hP a he (xCl_at a1 h5) a2 hk (hts _ (xLk hw rfl)) (fun _ h9 => h9) hv hd (kk H locs ls hl hP hS)
        · rename_i hkd
          cases h
          rw [hkd] at hv
          exact va_get hx hbc hts (xWs a1 h5) hown hK hP a he (xCl_at a1 h5) a2 hk (hts _ (xLk hw rfl)) (fun _ h9 => h9) hv hd (kk H locs ls hl hP hS)
        · rename_i n0 n1
          cases h
          have hv2 : (xFs G u a1 a)[a2]? = some (xc G (va_rf (u.2.2 a a2))) := by
            rw [hv]
            unfold xV
            split
            · rename_i q; exact absurd q n0
            · rename_i q; exact absurd q n1
            · rfl
          exact va_get hx hbc hts (xWs a1 h5) hown hK hP a he (xCl_at a1 h5) a2 hk (hts _ (xLk hw rfl)) (fun _ h9 => h9) hv2 hd (kk H locs ls hl hP hS)
      · cases h
    · cases h
  | putfield x =>
    simp only [xAnn, Bool.and_eq_true, decide_eq_true_eq, Bool.not_eq_true'] at ha
    obtain ⟨h5, hk, hw, hfin⟩ := ha
    obtain ⟨kI, kB, kL, kO⟩ := xTyK a1 h5 a2 hk
    have hpd := xTy_ok a1 h5 a2 hk
    simp only [xStep] at h
    split at h
    · rename_i y a r
      split at h
      · rename_i hsh
        have he : (xws G u)[a]? = some (G.1 a, .inr (a1, xFs G u a1 a)) := by rw [xws_at hsh.2, xE_obj hsh.1]
        have hset : (xTy a1 a2 = .int ∨ xTy a1 a2 = .boolean) → (xws G u).set a (G.1 a, .inr (a1, (xFs G u a1 a).set a2 (.int y))) = xws G (xI u a a2 y) := by
          intro hty
          refine xws_set ?_ xI_E
          rw [xE_obj hsh.1]
          refine congrArg (fun z => Sum.inr (a1, z)) (xFs_set ?_ (fun j kd hj => xV_I hj))
          rw [hty.elim kI kB]
          show Value.int ((xI u a a2 y).1 a a2) = _
          rw [xI_same]
          simp [upd]
        split at h
        · rename_i hty
          cases h
          refine va_put hx hbc hts (xWs a1 h5) (xTy a1) (xTy_ok a1 h5) (xNm_ok a1 h5) hown hK hP hD hS a he (xCl_at a1 h5) a2 hk (hts _ (xLk hw rfl)) (fun _ h9 => h9) hfin hpd (v := .int y) (by rw [hty]; rfl) (by rw [hty]; rfl) (by rw [xFs_len]; exact hk) hd (fun H1 locs1 hP1 hD1 hS1 => ?_)
          rw [hset (Or.inl hty)] at hP1
          exact kk H1 locs1 ls hl hP1 hS1
        · split at h
          · rename_i hty
            cases h
            have hy := isb_or (xb_t hb)
            refine va_put hx hbc hts (xWs a1 h5) (xTy a1) (xTy_ok a1 h5) (xNm_ok a1 h5) hown hK hP hD hS a he (xCl_at a1 h5) a2 hk (hts _ (xLk hw rfl)) (fun _ h9 => h9) hfin hpd (v := .int y) (by rw [hty]; rcases hy with rfl | rfl <;> rfl) (by rw [hty]; rcases hy with rfl | rfl <;> rfl) (by rw [xFs_len]; exact hk) hd (fun H1 locs1 hP1 hD1 hS1 => ?_)
            rw [hset (Or.inr hty)] at hP1
            exact kk H1 locs1 ls hl hP1 hS1
          · cases h
      · cases h
    · rename_i y a r
      split at h
      · rename_i hsh
        have he : (xws G u)[a]? = some (G.1 a, .inr (a1, xFs G u a1 a)) := by rw [xws_at hsh.2, xE_obj hsh.1]
        split at h
        · rename_i hty
          cases h
          have hset : (xws G u).set a (G.1 a, .inr (a1, (xFs G u a1 a).set a2 (.long y))) = xws G (xJ u a a2 y) := by
            refine xws_set ?_ xJ_E
            rw [xE_obj hsh.1]
            refine congrArg (fun z => Sum.inr (a1, z)) (xFs_set ?_ (fun j kd hj => xV_J hj))
            rw [kL hty]
            show Value.long ((xJ u a a2 y).2.1 a a2) = _
            simp [xJ, va_up]
          refine va_put hx hbc hts (xWs a1 h5) (xTy a1) (xTy_ok a1 h5) (xNm_ok a1 h5) hown hK hP hD hS a he (xCl_at a1 h5) a2 hk (hts _ (xLk hw rfl)) (fun _ h9 => h9) hfin hpd (v := .long y) (by rw [hty]; rfl) (by rw [hty]; rfl) (by rw [xFs_len]; exact hk) hd (fun H1 locs1 hP1 hD1 hS1 => ?_)
          rw [hset] at hP1
          exact kk H1 locs1 ls hl hP1 hS1
        · cases h
      · cases h
    · rename_i y a r
      split at h
      · rename_i hsh
        have he : (xws G u)[a]? = some (G.1 a, .inr (a1, xFs G u a1 a)) := by rw [xws_at hsh.2, xE_obj hsh.1]
        split at h
        · rename_i hty
          cases h
          have hset : (xws G u).set a (G.1 a, .inr (a1, (xFs G u a1 a).set a2 (.ref (G.1 y)))) = xws G (xR u a a2 (some y)) := by
            refine xws_set ?_ xR_E
            rw [xE_obj hsh.1]
            refine congrArg (fun z => Sum.inr (a1, z)) (xFs_set ?_ (fun j kd hj => xV_R hj))
            rw [kO hty]
            show xc G (va_rf ((xR u a a2 (some y)).2.2 a a2)) = _
            simp [xR, va_up, va_rf, xc]
          refine va_put hx hbc hts (xWs a1 h5) (xTy a1) (xTy_ok a1 h5) (xNm_ok a1 h5) hown hK hP hD hS a he (xCl_at a1 h5) a2 hk (hts _ (xLk hw rfl)) (fun _ h9 => h9) hfin hpd (v := .ref (G.1 y)) (by rw [hty]; rfl) (by rw [hty]; rfl) (by rw [xFs_len]; exact hk) hd (fun H1 locs1 hP1 hD1 hS1 => ?_)
          rw [hset] at hP1
          exact kk H1 locs1 ls hl hP1 hS1
        · cases h
      · cases h
    · cases h
  | iaload =>
    simp only [xStep] at h
    split at h
    · rename_i j a r
      split at h
      · rename_i n hsh
        split at h
        · rename_i hlt
          cases h
          have he : (xws G u)[a]? = some (G.1 a, .inl (G.2.2.1, n, .inl (u.1 a))) := by rw [xws_at hlt, xE_int hsh]
          exact va_iald hx hbc hK hP a 0 he rfl (inb_in (xb_t hb)) hd (kk H locs ls hl hP hS)
        · cases h
      · rename_i n hsh
        split at h
        · rename_i hor
          cases h
          rcases hor with rfl | rfl
          · exact va_ti hx hbc hStat.1.2 hS (inb_in (xb_t hb)) rfl hd (kk H locs ls hl hP hS)
          · exact va_ti hx hbc hStat.2.1.2 hS (inb_in (xb_t hb)) rfl hd (kk H locs ls hl hP hS)
        · cases h
      · cases h
    · cases h
  | laload =>
    simp only [xStep] at h
    split at h
    · rename_i j a r
      split at h
      · rename_i ha6
        cases h
        subst ha6
        exact va_tl hx hbc hStat.2.2.2 hS (inb_in (xb_t hb)) rfl hd (kk H locs ls hl hP hS)
      · cases h
    · cases h
  | baload =>
    simp only [xStep] at h
    split at h
    · rename_i j a r
      split at h
      · rename_i n hsh
        split at h
        · rename_i hlt
          cases h
          have he : (xws G u)[a]? = some (G.1 a, .inl (G.2.2.2.1, n, .inl (u.1 a))) := by rw [xws_at hlt, xE_bool hsh]
          exact va_zald hx hbc hK hP a 1 he rfl (inb_in (xb_t hb)) hd (kk H locs ls hl hP hS)
        · cases h
      · cases h
    · cases h
  | iastore =>
    simp only [xStep] at h
    split at h
    · rename_i y j a r
      split at h
      · rename_i n hsh
        split at h
        · rename_i hlt
          cases h
          have he : (xws G u)[a]? = some (G.1 a, .inl (G.2.2.1, n, .inl (u.1 a))) := by rw [xws_at hlt, xE_int hsh]
          refine va_iast hx hbc hK hP hD hS a 0 he rfl (inb_in (xb_t hb)) hd (fun H1 locs1 hP1 hD1 hS1 => ?_)
          have hset : (xws G u).set a (G.1 a, .inl (G.2.2.1, n, .inl (upd (u.1 a) j.toNatClampNeg y))) = xws G (xI u a j.toNatClampNeg y) := by
            refine xws_set ?_ xI_E
            rw [xE_int hsh, xI_same]
          rw [hset] at hP1
          exact kk H1 locs1 ls hl hP1 hS1
        · cases h
      · cases h
    · cases h
  | bastore =>
    simp only [xStep] at h
    split at h
    · rename_i y j a r
      split at h
      · rename_i n hsh
        split at h
        · rename_i hlt
          cases h
          have he : (xws G u)[a]? = some (G.1 a, .inl (G.2.2.2.1, n, .inl (u.1 a))) := by rw [xws_at hlt, xE_bool hsh]
          refine va_zast hx hbc hK hP hD hS a 1 he rfl (inb_in (xb_t hb)) hd (fun H1 locs1 hP1 hD1 hS1 => ?_)
          have hset : (xws G u).set a (G.1 a, .inl (G.2.2.2.1, n, .inl (upd (u.1 a) j.toNatClampNeg (vp_nar .boolean y)))) = xws G (xI u a j.toNatClampNeg (vp_nar .boolean y)) := by
            refine xws_set ?_ xI_E
            rw [xE_bool hsh, xI_same]
          rw [hset] at hP1
          exact kk H1 locs1 ls hl hP1 hS1
        · cases h
      · cases h
    · cases h
  | arraylength =>
    simp only [xStep] at h
    split at h
    · rename_i a r
      split at h
      · rename_i n hsh
        split at h
        · rename_i hlt
          cases h
          have he : (xws G u)[a]? = some (G.1 a, .inl (G.2.2.1, n, .inl (u.1 a))) := by rw [xws_at hlt, xE_int hsh]
          exact va_alen hx hbc hK hP a 0 he (ty := .int) rfl rfl hd (kk H locs ls hl hP hS)
        · cases h
      · cases h
    · cases h
  | getstatic x =>
    simp only [xStep] at h
    cases h
    simp only [xAnn] at ha
    split at ha
    · rename_i h54
      simp only [decide_eq_true_eq] at ha
      subst h54
      exact va_gets hx hbc hStat.1.1 hS hown (hts _ (xLk ha rfl)) (fun _ h9 => h9) hd (kk H locs ls hl hP hS)
    · split at ha
      · rename_i h55
        simp only [Bool.and_eq_true, decide_eq_true_eq] at ha
        obtain ⟨ho, hxx⟩ := ha
        subst h55; subst hxx; subst ho
        exact va_getsN hx hbc hStat.2.1.1 hS hown (va_Nw.use rfl hN.2.2.1) (fun _ h9 => h9) hd (kk H locs ls hl hP hS)
      · simp only [Bool.and_eq_true, decide_eq_true_eq] at ha
        obtain ⟨h56, hw⟩ := ha
        subst h56
        exact va_gets hx hbc hStat.2.2.1 hS hown (hts _ (xLk hw rfl)) (fun _ h9 => h9) hd (kk H locs ls hl hP hS)
  | _ => simp only [xStep] at h; cases h
theorem xRun_ok (C : xCx p R s m args meth c G cc own nL d cells slots) : ∀ (is : List xIn) {pc pc' : Nat} {lv lv' : List (Nat × Value)} {st st' : List Value} {u u' : xM} {bs : List Bool}, xOk own cc pc is = true → xRun nL is pc lv st u = some (bs, pc', lv', st', u') → (∀ b ∈ bs, b = true) → xGo p l e R s m args below meth c G nL cells slots Q pc' lv' st' u' → xGo p l e R s m args below meth c G nL cells slots Q pc lv st u := by
  intro is
  induction is with
  | nil =>
    intro pc pc' lv lv' st st' u u' bs _ h _ kk
    simp only [xRun] at h
    cases h
    exact kk
  | cons i is ih =>
    intro pc pc' lv lv' st st' u u' bs hok h hbs kk
    simp only [xOk, Bool.and_eq_true, decide_eq_true_eq] at hok
    obtain ⟨hd, ha, hok⟩ := hok
    simp only [xRun] at h
    split at h
    · rename_i lv1 st1 u1 hs
      exact xStep_ok C hd ha hs (by simp) (ih hok h hbs kk)
    · rename_i b lv1 st1 u1 hs
      split at h
      · rename_i bs1 z hr
        cases h
        exact xStep_ok C hd ha hs (by rw [hbs b List.mem_cons_self]; simp) (ih hok hr (fun b h => hbs b (List.mem_cons_of_mem _ h)) kk)
      · cases h
    · cases h
end XS
end
section
/-! ===== branches, calls, returns: rules of the walk (xg_: in any frame; xm_: in a method, driven by its value) ===== -/
def gdl {α : Type} : List Bool → Option α → Option α
  | [], x => x
  | b :: bs, x => if b = true then gdl bs x else none
theorem gdl_some {α : Type} {bs : List Bool} {x : Option α} {o : α} (h : gdl bs x = some o) : (∀ b ∈ bs, b = true) ∧ x = some o := by
  induction bs with
  | nil => exact ⟨fun _ h => absurd h List.not_mem_nil, h⟩
  | cons b bs ih =>
    simp only [gdl] at h
    split at h
    · rename_i hb
      obtain ⟨h1, h2⟩ := ih h
      exact ⟨fun z hz => (List.mem_cons.mp hz).elim (fun q => q ▸ hb) (h1 z), h2⟩
    · cases h
theorem lv_args_xc (G : xG) : ∀ (as : List Value) (i : Nat), lv_args i (as.map (xc G)) = xcl G (lv_args i as) := by
  intro as
  induction as with
  | nil => intro i; rfl
  | cons v vs ih =>
    intro i
    simp only [List.map_cons, lv_args, xc_cat, ih]
/-- a copy of n ints from one array to another -/
def xCp (u : xM) (a0 a1 : Nat) (sp dp n : Int32) : xM := (va_up u.1 a1 (va_cpy (u.1 a0) (u.1 a1) sp.toNatClampNeg dp.toNatClampNeg n.toNatClampNeg), u.2)
def cpok (sp dp n : Int32) (n0 n1 : Nat) : Bool := decide (0 ≤ sp.toInt) && (decide (0 ≤ dp.toInt) && (decide (0 ≤ n.toInt) && (decide (sp.toInt + n.toInt ≤ (n0 : Int)) && decide (dp.toInt + n.toInt ≤ (n1 : Int)))))
theorem i32_nneg {x : Int32} (h : 0 ≤ x.toInt) : ¬ x < 0 ∧ (x.toNatClampNeg : Int) = x.toInt := by
  refine ⟨fun q => ?_, ?_⟩
  · have := Int32.lt_iff_toInt_lt.mp q
    have z : (0 : Int32).toInt = 0 := rfl
    omega
  · show ((x.toInt.toNat : Nat) : Int) = x.toInt
    omega
/-- what is known of a method that is called: static; of an object -/
def xMs (y : MethodName) (cc : ByteArray) (nL : Nat) (ret : Option FieldType) (n : Nat) : Prop := Cond.code y cc nL ret ∈ lw_g ∧ Cond.static y ∈ lw_g ∧ Cond.initialized y.cls ∈ lw_g ∧ y.cls ≠ "java/lang/invoke/MethodHandle" ∧ y.cls ≠ "java/lang/invoke/VarHandle" ∧ (parseMethodDescriptor y.desc).map (fun d => d.parameters.length) = some n
def xMv (y : MethodName) (cc : ByteArray) (nL : Nat) (ret : Option FieldType) (n : Nat) : Prop := Cond.code y cc nL ret ∈ lw_g ∧ Cond.instanceMethod y ∈ lw_g ∧ Cond.selects y.cls y y ∈ lw_g ∧ Cond.initialized y.cls ∈ lw_g ∧ y.cls ≠ "java/lang/invoke/MethodHandle" ∧ y.cls ≠ "java/lang/invoke/VarHandle" ∧ (parseMethodDescriptor y.desc).map (fun d => d.parameters.length) = some n
/-- the same by places of the tables -/
def xMsB (y : MethodName) (cc : ByteArray) (nL : Nat) (ret : Option FieldType) (n p1 p2 p3 : Nat) : Bool := decide (lw_tbl[p1]? = some (Cond.code y cc nL ret)) && (decide (lw_tbl[p2]? = some (Cond.static y)) && (decide (lw_tbl[p3]? = some (Cond.initialized y.cls)) && (decide (y.cls ≠ "java/lang/invoke/MethodHandle") && (decide (y.cls ≠ "java/lang/invoke/VarHandle") && decide ((parseMethodDescriptor y.desc).map (fun d => d.parameters.length) = some n)))))
def xMvB (y : MethodName) (cc : ByteArray) (nL : Nat) (ret : Option FieldType) (n p1 p2 p3 p4 : Nat) : Bool := decide (lw_tbl[p1]? = some (Cond.code y cc nL ret)) && (decide (lw_tbl[p2]? = some (Cond.instanceMethod y)) && (decide (lw_tbl[p4]? = some (Cond.selects y.cls y y)) && (decide (lw_tbl[p3]? = some (Cond.initialized y.cls)) && (decide (y.cls ≠ "java/lang/invoke/MethodHandle") && (decide (y.cls ≠ "java/lang/invoke/VarHandle") && decide ((parseMethodDescriptor y.desc).map (fun d => d.parameters.length) = some n))))))
theorem xMs_of {y : MethodName} {cc : ByteArray} {nL : Nat} {ret : Option FieldType} {n p1 p2 p3 : Nat} (h : xMsB y cc nL ret n p1 p2 p3 = true) : xMs y cc nL ret n := by
  simp only [xMsB, Bool.and_eq_true, decide_eq_true_eq] at h
  obtain ⟨h1, h2, h3, h4, h5, h6⟩ := h
  exact ⟨xLk h1 rfl, xLk h2 rfl, xLk h3 rfl, h4, h5, h6⟩
theorem xMv_of {y : MethodName} {cc : ByteArray} {nL : Nat} {ret : Option FieldType} {n p1 p2 p3 p4 : Nat} (h : xMvB y cc nL ret n p1 p2 p3 p4 = true) : xMv y cc nL ret n := by
  simp only [xMvB, Bool.and_eq_true, decide_eq_true_eq] at h
  obtain ⟨h1, h2, h3, h4, h5, h6, h7⟩ := h
  exact ⟨xLk h1 rfl, xLk h2 rfl, xLk h3 rfl, xLk h4 rfl, h5, h6, h7⟩
theorem xGood_code {y : MethodName} {cc : ByteArray} {nL : Nat} {ret : Option FieldType} (h : Cond.code y cc nL ret ∈ lw_g) : GoodIn lw_g (.code y cc nL ret :: lw_g) := fun w hw => (List.mem_cons.mp hw).elim (fun q => q ▸ lw_g_good _ h) (lw_g_good w)
theorem xW_nat : Cond.native arraycopyName ∈ lw_g := lw_g_mk (by decide +kernel) rfl
theorem xW_sta : Cond.static arraycopyName ∈ lw_g := lw_g_mk (by decide +kernel) rfl
theorem xW_ini : Cond.initialized "java/lang/System" ∈ lw_g := lw_g_mk (by decide +kernel) rfl
section XG
variable {p : Program} {l : Launch} {e : Env} {R : Room} {s : State} {m : MethodId} {args : Array Value} {below : List Frame} {meth : Method} {c : Code} {G : xG} {cc : ByteArray} {own : String} {nL d cells slots : Nat} {Q : State → Prop}
variable {pc : Nat} {lv : List (Nat × Value)} {st : List Value} {u : xM}
theorem xg_wk {lv' : List (Nat × Value)} (ks : List Nat) (hk : lv_pick lv ks = lv') (k : xGo p l e R s m args below meth c G nL cells slots Q pc lv' st u) : xGo p l e R s m args below meth c G nL cells slots Q pc lv st u := by
  intro H locs ls hl hP hS
  refine k H locs ls (lv_mono hl fun q hq => ?_) hP hS
  obtain ⟨z, hz, rfl⟩ := List.mem_map.mp hq
  refine List.mem_map.mpr ⟨z, ?_, rfl⟩
  rw [← hk] at hz
  obtain ⟨i, -, hi⟩ := List.mem_filterMap.mp hz
  exact List.mem_of_getElem? hi
theorem xg_goto (C : xCx p R s m args meth c G cc own nL d cells slots) {off : Int} {tgt : Nat} (hd : decode cc pc = .ok (.goto off, 3)) (ht : (pc : Int) + off = (tgt : Int)) (k : xGo p l e R s m args below meth c G nL cells slots Q tgt lv st u) : xGo p l e R s m args below meth c G nL cells slots Q pc lv st u := fun H locs ls hl hP hS => lv_goto C.1 C.2.1 hd ht (k H locs ls hl hP hS)
theorem xg_icmp_eq (C : xCx p R s m args meth c G cc own nL d cells slots) {x y : Int32} {off : Int} {tgt : Nat} (hd : decode cc pc = .ok (.if_icmp .eq off, 3)) (ht : (pc : Int) + off = (tgt : Int)) (kt : x = y → xGo p l e R s m args below meth c G nL cells slots Q tgt lv st u) (kf : ¬ x = y → xGo p l e R s m args below meth c G nL cells slots Q (pc + 3) lv st u) : xGo p l e R s m args below meth c G nL cells slots Q pc lv (.int y :: .int x :: st) u := fun H locs ls hl hP hS => lv_icmp_eq C.1 C.2.1 hd ht (fun h => kt h H locs ls hl hP hS) (fun h => kf h H locs ls hl hP hS)
theorem xg_if_eq (C : xCx p R s m args meth c G cc own nL d cells slots) {x : Int32} {off : Int} {tgt : Nat} (hd : decode cc pc = .ok (.ifCond .eq off, 3)) (ht : (pc : Int) + off = (tgt : Int)) (kt : x = 0 → xGo p l e R s m args below meth c G nL cells slots Q tgt lv st u) (kf : ¬ x = 0 → xGo p l e R s m args below meth c G nL cells slots Q (pc + 3) lv st u) : xGo p l e R s m args below meth c G nL cells slots Q pc lv (.int x :: st) u := fun H locs ls hl hP hS => lv_if_eq C.1 C.2.1 hd ht (fun h => kt h H locs ls hl hP hS) (fun h => kf h H locs ls hl hP hS)
theorem xg_icmp_lt (C : xCx p R s m args meth c G cc own nL d cells slots) {x y : Int32} {off : Int} {tgt : Nat} (hd : decode cc pc = .ok (.if_icmp .lt off, 3)) (ht : (pc : Int) + off = (tgt : Int)) (kt : x < y → xGo p l e R s m args below meth c G nL cells slots Q tgt lv st u) (kf : ¬ x < y → xGo p l e R s m args below meth c G nL cells slots Q (pc + 3) lv st u) : xGo p l e R s m args below meth c G nL cells slots Q pc lv (.int y :: .int x :: st) u := fun H locs ls hl hP hS => lv_icmp_lt C.1 C.2.1 hd ht (fun h => kt h H locs ls hl hP hS) (fun h => kf h H locs ls hl hP hS)
theorem xg_if_lt (C : xCx p R s m args meth c G cc own nL d cells slots) {x : Int32} {off : Int} {tgt : Nat} (hd : decode cc pc = .ok (.ifCond .lt off, 3)) (ht : (pc : Int) + off = (tgt : Int)) (kt : x < 0 → xGo p l e R s m args below meth c G nL cells slots Q tgt lv st u) (kf : ¬ x < 0 → xGo p l e R s m args below meth c G nL cells slots Q (pc + 3) lv st u) : xGo p l e R s m args below meth c G nL cells slots Q pc lv (.int x :: st) u := fun H locs ls hl hP hS => lv_if_lt C.1 C.2.1 hd ht (fun h => kt h H locs ls hl hP hS) (fun h => kf h H locs ls hl hP hS)
theorem xg_icmp_le (C : xCx p R s m args meth c G cc own nL d cells slots) {x y : Int32} {off : Int} {tgt : Nat} (hd : decode cc pc = .ok (.if_icmp .le off, 3)) (ht : (pc : Int) + off = (tgt : Int)) (kt : x ≤ y → xGo p l e R s m args below meth c G nL cells slots Q tgt lv st u) (kf : ¬ x ≤ y → xGo p l e R s m args below meth c G nL cells slots Q (pc + 3) lv st u) : xGo p l e R s m args below meth c G nL cells slots Q pc lv (.int y :: .int x :: st) u := fun H locs ls hl hP hS => lv_icmp_le C.1 C.2.1 hd ht (fun h => kt h H locs ls hl hP hS) (fun h => kf h H locs ls hl hP hS)
theorem xg_if_le (C : xCx p R s m args meth c G cc own nL d cells slots) {x : Int32} {off : Int} {tgt : Nat} (hd : decode cc pc = .ok (.ifCond .le off, 3)) (ht : (pc : Int) + off = (tgt : Int)) (kt : x ≤ 0 → xGo p l e R s m args below meth c G nL cells slots Q tgt lv st u) (kf : ¬ x ≤ 0 → xGo p l e R s m args below meth c G nL cells slots Q (pc + 3) lv st u) : xGo p l e R s m args below meth c G nL cells slots Q pc lv (.int x :: st) u := fun H locs ls hl hP hS => lv_if_le C.1 C.2.1 hd ht (fun h => kt h H locs ls hl hP hS) (fun h => kf h H locs ls hl hP hS)
theorem xg_icmp_gt (C : xCx p R s m args meth c G cc own nL d cells slots) {x y : Int32} {off : Int} {tgt : Nat} (hd : decode cc pc = .ok (.if_icmp .gt off, 3)) (ht : (pc : Int) + off = (tgt : Int)) (kt : y < x → xGo p l e R s m args below meth c G nL cells slots Q tgt lv st u) (kf : ¬ y < x → xGo p l e R s m args below meth c G nL cells slots Q (pc + 3) lv st u) : xGo p l e R s m args below meth c G nL cells slots Q pc lv (.int y :: .int x :: st) u := fun H locs ls hl hP hS => lv_icmp_gt C.1 C.2.1 hd ht (fun h => kt h H locs ls hl hP hS) (fun h => kf h H locs ls hl hP hS)
theorem xg_if_gt (C : xCx p R s m args meth c G cc own nL d cells slots) {x : Int32} {off : Int} {tgt : Nat} (hd : decode cc pc = .ok (.ifCond .gt off, 3)) (ht : (pc : Int) + off = (tgt : Int)) (kt : 0 < x → xGo p l e R s m args below meth c G nL cells slots Q tgt lv st u) (kf : ¬ 0 < x → xGo p l e R s m args below meth c G nL cells slots Q (pc + 3) lv st u) : xGo p l e R s m args below meth c G nL cells slots Q pc lv (.int x :: st) u := fun H locs ls hl hP hS => lv_if_gt C.1 C.2.1 hd ht (fun h => kt h H locs ls hl hP hS) (fun h => kf h H locs ls hl hP hS)
theorem xg_icmp_ge (C : xCx p R s m args meth c G cc own nL d cells slots) {x y : Int32} {off : Int} {tgt : Nat} (hd : decode cc pc = .ok (.if_icmp .ge off, 3)) (ht : (pc : Int) + off = (tgt : Int)) (kt : y ≤ x → xGo p l e R s m args below meth c G nL cells slots Q tgt lv st u) (kf : ¬ y ≤ x → xGo p l e R s m args below meth c G nL cells slots Q (pc + 3) lv st u) : xGo p l e R s m args below meth c G nL cells slots Q pc lv (.int y :: .int x :: st) u := fun H locs ls hl hP hS => lv_icmp_ge C.1 C.2.1 hd ht (fun h => kt h H locs ls hl hP hS) (fun h => kf h H locs ls hl hP hS)
theorem xg_if_ge (C : xCx p R s m args meth c G cc own nL d cells slots) {x : Int32} {off : Int} {tgt : Nat} (hd : decode cc pc = .ok (.ifCond .ge off, 3)) (ht : (pc : Int) + off = (tgt : Int)) (kt : 0 ≤ x → xGo p l e R s m args below meth c G nL cells slots Q tgt lv st u) (kf : ¬ 0 ≤ x → xGo p l e R s m args below meth c G nL cells slots Q (pc + 3) lv st u) : xGo p l e R s m args below meth c G nL cells slots Q pc lv (.int x :: st) u := fun H locs ls hl hP hS => lv_if_ge C.1 C.2.1 hd ht (fun h => kt h H locs ls hl hP hS) (fun h => kf h H locs ls hl hP hS)
theorem xg_icmp_ne (C : xCx p R s m args meth c G cc own nL d cells slots) {x y : Int32} {off : Int} {tgt : Nat} (hd : decode cc pc = .ok (.if_icmp .ne off, 3)) (ht : (pc : Int) + off = (tgt : Int)) (kt : ¬ x = y → xGo p l e R s m args below meth c G nL cells slots Q tgt lv st u) (kf : x = y → xGo p l e R s m args below meth c G nL cells slots Q (pc + 3) lv st u) : xGo p l e R s m args below meth c G nL cells slots Q pc lv (.int y :: .int x :: st) u := fun H locs ls hl hP hS => lv_icmp_ne C.1 C.2.1 hd ht (fun h => kt h H locs ls hl hP hS) (fun h => kf h H locs ls hl hP hS)
theorem xg_if_ne (C : xCx p R s m args meth c G cc own nL d cells slots) {x : Int32} {off : Int} {tgt : Nat} (hd : decode cc pc = .ok (.ifCond .ne off, 3)) (ht : (pc : Int) + off = (tgt : Int)) (kt : ¬ x = 0 → xGo p l e R s m args below meth c G nL cells slots Q tgt lv st u) (kf : x = 0 → xGo p l e R s m args below meth c G nL cells slots Q (pc + 3) lv st u) : xGo p l e R s m args below meth c G nL cells slots Q pc lv (.int x :: st) u := fun H locs ls hl hP hS => lv_if_ne C.1 C.2.1 hd ht (fun h => kt h H locs ls hl hP hS) (fun h => kf h H locs ls hl hP hS)
/-- a switch: what lies outside; a case (the offset at its place) -/
theorem xg_tout (C : xCx p R s m args meth c G cc own nL d cells slots) {dflt lo hi : Int} {offs : Array Int} {len tgt : Nat} {x : Int32} (hd : decode cc pc = .ok (.tableswitch dflt lo hi offs, len)) (h : x.toInt < lo ∨ hi < x.toInt) (ht : (pc : Int) + dflt = (tgt : Int)) (k : xGo p l e R s m args below meth c G nL cells slots Q tgt lv st u) : xGo p l e R s m args below meth c G nL cells slots Q pc lv (.int x :: st) u := fun H locs ls hl hP hS => lv_tableOut C.1 C.2.1 hd h ht (k H locs ls hl hP hS)
theorem xg_tin (C : xCx p R s m args meth c G cc own nL d cells slots) {dflt lo hi off : Int} {offs : Array Int} {len tgt : Nat} {x : Int32} (hd : decode cc pc = .ok (.tableswitch dflt lo hi offs, len)) (h1 : ¬ x.toInt < lo) (h2 : ¬ hi < x.toInt) (ho : offs[(x.toInt - lo).toNat]? = some off) (ht : (pc : Int) + off = (tgt : Int)) (k : xGo p l e R s m args below meth c G nL cells slots Q tgt lv st u) : xGo p l e R s m args below meth c G nL cells slots Q pc lv (.int x :: st) u := fun H locs ls hl hP hS => lv_tableIn C.1 C.2.1 hd h1 h2 ho ht (k H locs ls hl hP hS)
theorem xg_run {H : Heap} {locs : List Loc} {ls : Array Slot} {st0 rest : List Value} {o : Option Value × xM} {a : Array Value} (hr : va_Run p l e R s m args below meth c H locs cells slots 0 0 (F0 m pc ls st0) rest (xQc G o a) (xA G)) (hS : va_S (xA G) s.heap H locs) (kk : ∀ (H1 : Heap) (locs1 : List Loc), va_P G.2.1 vwCl (xws G o.2) H1 → va_S (xA G) s.heap H1 locs1 → W p l e R s m args below meth c H1 locs1 cells slots Q (F0 m (pc + 3) ls ((o.1.map (xc G)).toList ++ rest))) : W p l e R s m args below meth c H locs cells slots Q (F0 m pc ls st0) := by
  intro T hT X
  obtain ⟨v, st₀, t, T', L, h0, X', hL, e1, e2, ⟨hv, hPt, hz, hk⟩, st⟩ := hr T hT X
  cases hv
  rw [h0] at hz hk
  obtain ⟨t2, a1, b1⟩ := kk T'.heap (locs ++ L) (by rw [e1]; exact hPt)
    ⟨Nat.le_trans hS.1 (by rw [e1]; exact hz), fun q h1 h2 => by rw [e1, hk q (Nat.lt_of_lt_of_le h1 hS.1) h2]; exact hS.2.1 q h1 h2, fun q hq => by
      rcases List.mem_append.mp hq with h | h
      · exact hS.2.2 q h
      · exact hL q h⟩ T' rfl X'
  exact ⟨t2, st t2 a1, b1⟩
theorem xPc_blind {as : List Value} : FrameBlind (xPc G as u) := fun a U g mk q => by
  obtain ⟨q0, qP, qK, qI, ⟨⟨z1, t1⟩, ⟨z2, t2⟩, ⟨z3, t3⟩⟩, n1, n2, n3, n4, n5⟩ := q
  have hv := Vm.Alike.refl U.vm
  exact ⟨q0, qP, va_K.moved (u := U) (U := U.calling g mk a) hv qK, qI, ⟨⟨z1.moved (U := U.calling g mk a) hv, t1.moved (U := U.calling g mk a) hv⟩, ⟨z2.moved (U := U.calling g mk a) hv, t2.moved (U := U.calling g mk a) hv⟩, ⟨z3.moved (U := U.calling g mk a) hv, t3.moved (U := U.calling g mk a) hv⟩⟩, n1.same rfl rfl, n2.same rfl rfl, n3.same rfl rfl, n4.same rfl rfl, n5.same rfl rfl⟩
theorem xsum {st : List Value} (h : (st.map fun v => v.category).sum ≤ 8) : ((st.map (xc G)).map fun v => v.category).sum ≤ 8 := by
  rw [List.map_map]
  have : ((fun v : Value => v.category) ∘ xc G) = fun v => v.category := funext fun v => xc_cat G v
  rw [this]
  exact h
theorem xg_o {o : Option Value} {st : List Value} : (o.map (xc G)).toList ++ st.map (xc G) = (o.toList ++ st).map (xc G) := by
  cases o <;> simp
theorem xg_callV (C : xCx p R s m args meth c G cc own nL d cells slots) {y : MethodName} {cz : ByteArray} {nz dz n idx a ci : Nat} {rz : Option FieldType} {as : List Value} {o : Option Value × xM} (hM : xEv y cz nz rz dz (.ref a :: as) u o) (hw : xMv y cz nz rz n) (hd : decode cc pc = .ok (.invokevirtual idx, 3)) (hlk : Cond.methodLink own idx y ∈ lw_g) (hlt : dz < d) (hnz : nz ≤ 40) (hn : as.length = n) (hsh : xSh a = (0, ci)) (ha : a < 54) (hci : ci < 5) (hcls : xRn ci = y.cls) (hst : (st.map fun v => v.category).sum ≤ 8)
    (k : xGo p l e R s m args below meth c G nL cells slots Q (pc + 3) lv (o.1.toList ++ st) o.2) : xGo p l e R s m args below meth c G nL cells slots Q pc lv (as.reverse ++ .ref a :: st) u := by
  obtain ⟨hx, hb, hml, hown, hts, hWo, hf, hlo, hc, hsl⟩ := C
  obtain ⟨w1, w2, w3, w4, w5, w6, w7⟩ := hw
  intro H locs ls hl hP hS
  have he : (xws G u)[a]? = some (G.1 a, .inr (ci, xFs G u ci a)) := by rw [xws_at ha, xE_obj hsh]
  have hrv := va_recv hWo.1 hP (xCl_at ci hci) he
  have hT : GoodIn lw_g (wsV own idx y.cls y (.code y cz nz rz :: lw_g)) := by
    intro w hw
    rcases List.mem_append.mp (show w ∈ ([.methodLink own idx y, .instanceMethod y, .selects y.cls y y, .initialized y.cls] : List Cond) ++ (.code y cz nz rz :: lw_g) from hw) with h | h
    · simp only [List.mem_cons, List.not_mem_nil, or_false] at h
      rcases h with rfl | rfl | rfl | rfl
      · exact lw_g_good _ hlk
      · exact lw_g_good _ w2
      · exact lw_g_good _ w3
      · exact lw_g_good _ w4
    · exact xGood_code w1 w h
  have hR : (xRm dz).frames + 1 ≤ R.frames ∧ 8 + (nz + 11) + (xRm dz).locals ≤ R.locals := by
    show dz + 1 ≤ R.frames ∧ 8 + (nz + 11) + 64 * dz ≤ R.locals
    omega
  have hr := va_runV (p := p) (l := l) (e := e) (below := below) (meth := meth) (locs := locs) (cells := cells) (slots := slots) (As := as.map (xc G)) (rest := st.map (xc G)) (b := G.1 a) (g := F0 m pc ls ((as.map (xc G)).reverse ++ .ref (G.1 a) :: st.map (xc G))) (C := y.cls) ⟨hx, hb, hml, hown, hts⟩ (hM l G) (cwV n hts hT rfl rfl rfl ⟨rfl, w5, w6, w7⟩ hR)
    ⟨xPc_blind, by rw [← hcls]; exact hrv, fun U hU hW => ⟨rfl, by rw [hU]; exact hP, xWo_moved hWo hS hU hW⟩⟩ rfl (by rw [List.length_map]; exact hn) hl.1 rfl (lv_room (xsum hst)) hd ⟨by omega, by omega⟩
  have hgo := xg_run hr hS (Q := Q) (fun H1 locs1 hP1 hS1 => by rw [xg_o]; exact k H1 locs1 ls hl hP1 hS1)
  rw [List.map_append, List.map_reverse]
  exact hgo
theorem xg_callS (C : xCx p R s m args meth c G cc own nL d cells slots) {y : MethodName} {cz : ByteArray} {nz dz n idx : Nat} {rz : Option FieldType} {as : List Value} {o : Option Value × xM} (hM : xEv y cz nz rz dz as u o) (hw : xMs y cz nz rz n) (hd : decode cc pc = .ok (.invokestatic idx, 3)) (hlk : Cond.methodLink own idx y ∈ lw_g) (hlt : dz < d) (hnz : nz ≤ 40) (hn : as.length = n) (hst : (st.map fun v => v.category).sum ≤ 8)
    (k : xGo p l e R s m args below meth c G nL cells slots Q (pc + 3) lv (o.1.toList ++ st) o.2) : xGo p l e R s m args below meth c G nL cells slots Q pc lv (as.reverse ++ st) u := by
  obtain ⟨hx, hb, hml, hown, hts, hWo, hf, hlo, hc, hsl⟩ := C
  obtain ⟨w1, w2, w3, w4, w5, w6⟩ := hw
  intro H locs ls hl hP hS
  have hR : (xRm dz).frames + 1 ≤ R.frames ∧ 8 + (nz + 11) + (xRm dz).locals ≤ R.locals := by
    show dz + 1 ≤ R.frames ∧ 8 + (nz + 11) + 64 * dz ≤ R.locals
    omega
  have hr := va_runS (p := p) (l := l) (e := e) (below := below) (meth := meth) (locs := locs) (cells := cells) (slots := slots) (As := as.map (xc G)) (rest := st.map (xc G)) (g := F0 m pc ls ((as.map (xc G)).reverse ++ st.map (xc G))) ⟨hx, hb, hml, hown, hts⟩ (hM l G) ⟨callB_of n hts (xGood_code w1) rfl rfl rfl (hts _ w3) (hts _ hlk) ⟨w4, w5, w6⟩ hR, hts _ w2⟩
    ⟨xPc_blind, fun U hU hW => ⟨rfl, by rw [hU]; exact hP, xWo_moved hWo hS hU hW⟩⟩ rfl (by rw [List.length_map]; exact hn) hl.1 rfl (lv_room (xsum hst)) hd ⟨by omega, by omega⟩
  have hgo := xg_run hr hS (Q := Q) (fun H1 locs1 hP1 hS1 => by rw [xg_o]; exact k H1 locs1 ls hl hP1 hS1)
  rw [List.map_append, List.map_reverse]
  exact hgo
theorem xg_callN (C : xCx p R s m args meth c G cc own nL d cells slots) {y : MethodName} {cz : ByteArray} {nz dz n idx : Nat} {rz : Option FieldType} {as : List Value} {o : Option Value × xM} {host : String} (hM : xEv y cz nz rz dz as u o) (hw : xMs y cz nz rz n) (hd : decode cc pc = .ok (.invokestatic idx, 3)) (hlk : xNst s → va_Nw (.methodLinkNest own idx y host) s) (hlt : dz < d) (hnz : nz ≤ 40) (hn : as.length = n) (hst : (st.map fun v => v.category).sum ≤ 8)
    (k : xGo p l e R s m args below meth c G nL cells slots Q (pc + 3) lv (o.1.toList ++ st) o.2) : xGo p l e R s m args below meth c G nL cells slots Q pc lv (as.reverse ++ st) u := by
  obtain ⟨hx, hb, hml, hown, hts, hWo, hf, hlo, hc, hsl⟩ := C
  obtain ⟨w1, w2, w3, w4, w5, w6⟩ := hw
  intro H locs ls hl hP hS
  have hR : (xRm dz).frames + 1 ≤ R.frames ∧ 8 + (nz + 11) + (xRm dz).locals ≤ R.locals := by
    show dz + 1 ≤ R.frames ∧ 8 + (nz + 11) + 64 * dz ≤ R.locals
    omega
  have hr := va_runSN (p := p) (l := l) (e := e) (below := below) (meth := meth) (locs := locs) (cells := cells) (slots := slots) (As := as.map (xc G)) (rest := st.map (xc G)) (g := F0 m pc ls ((as.map (xc G)).reverse ++ st.map (xc G))) ⟨hx, hb, hml, hown, hts⟩ (hM l G) ⟨va_cnB n hts (xGood_code w1) rfl rfl rfl (hlk hWo.2.2.2) (hts _ w3) ⟨w4, w5, w6⟩ hR, hts _ w2, trivial⟩
    ⟨xPc_blind, fun U hU hW => ⟨rfl, by rw [hU]; exact hP, xWo_moved hWo hS hU hW⟩⟩ rfl (by rw [List.length_map]; exact hn) hl.1 rfl (lv_room (xsum hst)) hd ⟨by omega, by omega⟩
  have hgo := xg_run hr hS (Q := Q) (fun H1 locs1 hP1 hS1 => by rw [xg_o]; exact k H1 locs1 ls hl hP1 hS1)
  rw [List.map_append, List.map_reverse]
  exact hgo
/-- a place of the array of Standings -/
theorem xg_aald (C : xCx p R s m args meth c G cc own nL d cells slots) {i : Int32} {q : Nat} (hd : decode cc pc = .ok (.aaload, 1)) (hi : inb i 3 = true) (hq : u.2.2 23 i.toNatClampNeg = some q) (k : xGo p l e R s m args below meth c G nL cells slots Q (pc + 1) lv (.ref q :: st) u) : xGo p l e R s m args below meth c G nL cells slots Q pc lv (.int i :: .ref 23 :: st) u := by
  intro H locs ls hl hP hS
  have he : (xws G u)[23]? = some (G.1 23, .inl (G.2.2.2.2, 3, .inr (.inr (.inr (.inr (fun j => (u.2.2 23 j).map G.1)))))) := by rw [xws_at (by decide), xE_ref rfl]
  refine va_aldq C.1 C.2.1 C.2.2.2.2.2.1.1 hP 23 2 he rfl (inb_in hi) hd ?_
  show W p l e R s m args below meth c H locs cells slots Q (F0 m (pc + 1) ls (va_rf ((u.2.2 23 i.toNatClampNeg).map G.1) :: _))
  rw [hq]
  exact k H locs ls hl hP hS
theorem xg_acopy (C : xCx p R s m args meth c G cc own nL d cells slots) {a0 a1 n0 n1 idx : Nat} {sp dp n : Int32} (hd : decode cc pc = .ok (.invokestatic idx, 3)) (hlk : Cond.methodLink own idx arraycopyName ∈ lw_g) (h1 : xSh a0 = (1, n0)) (h2 : xSh a1 = (1, n1)) (l0 : a0 < 54) (l1 : a1 < 54) (hc : cpok sp dp n n0 n1 = true) (hd1 : 1 ≤ d) (hst : (st.map fun v => v.category).sum ≤ 8) (k : xGo p l e R s m args below meth c G nL cells slots Q (pc + 3) lv st (xCp u a0 a1 sp dp n)) : xGo p l e R s m args below meth c G nL cells slots Q pc lv (.int n :: .int dp :: .ref a1 :: .int sp :: .ref a0 :: st) u := by
  obtain ⟨hx, hb, hml, hown, hts, hWo, hf, hlo, -⟩ := C
  intro H locs ls hl hP hS
  simp only [cpok, Bool.and_eq_true, decide_eq_true_eq] at hc
  obtain ⟨c1, c2, c3, c4, c5⟩ := hc
  obtain ⟨e1, f1⟩ := i32_nneg c1
  obtain ⟨e2, f2⟩ := i32_nneg c2
  obtain ⟨e3, f3⟩ := i32_nneg c3
  have he0 : (xws G u)[a0]? = some (G.1 a0, .inl (G.2.2.1, n0, .inl (u.1 a0))) := by rw [xws_at l0, xE_int h1]
  have he1 : (xws G u)[a1]? = some (G.1 a1, .inl (G.2.2.1, n1, .inl (u.1 a1))) := by rw [xws_at l1, xE_int h2]
  have hfw : nativeFrameWords "java/lang/System" "arraycopy" 5 + 11 ≤ 48 := by decide +kernel
  have hsm := xsum (G := G) hst
  refine va_copyi hx hb (hml.trans hl.1.symm) hown (hts _ hlk) (hts _ xW_nat) (hts _ xW_sta) (hts _ xW_ini) hWo.1 hP (xws_D hWo.2.1) hS a0 a1 0 0 he0 he1 rfl rfl rfl e1 e2 e3 (by omega) (by omega) (fun _ _ => rfl) (by omega) (by omega) hd (fun H1 locs1 hP1 hD1 hS1 => ?_)
  have hset : (xws G u).set a1 (G.1 a1, .inl (G.2.2.1, n1, .inl (va_cpy (u.1 a0) (u.1 a1) sp.toNatClampNeg dp.toNatClampNeg n.toNatClampNeg))) = xws G (xCp u a0 a1 sp dp n) := by
    refine xws_set ?_ (fun b h => xE_congr (by simp [xCp, va_up, h]) rfl rfl)
    rw [xE_int h2]
    simp [xCp, va_up]
  rw [hset] at hP1
  exact k H1 locs1 ls hl hP1 hS1
end XG
end
section
/-! ===== methods: the walk driven by the method's value ===== -/
/-- ints and longs; the references stand still -/
abbrev xN : Type := (Nat → Nat → Int32) × (Nat → Nat → Int64)
def rf0 : Nat → Nat → Option Nat := fun a k => (([[some 1, some 4, some 7, some 13, some 19, some 23, some 36, some 37, some 38], [none, none, none, some 2, some 3], [], [], [none, none, none, some 5, some 6], [], [], [none, none, none, some 8, some 9, some 10, some 11, some 12], [], [], [], [], [], [none, none, none, some 14, some 15, some 16, some 17, some 18], [], [], [], [], [], [none, none, none, some 20, some 21, some 22], [], [], [], [some 24, some 28, some 32], [none, none, none, some 25, some 26, some 27], [], [], [], [none, none, none, some 29, some 30, some 31], [], [], [], [none, none, none, some 33, some 34, some 35], [], [], [], [], [], [], [some 40, none, some 41, none, some 42, some 43, some 44, some 45, some 46, some 47, some 48, none, none, none, none, some 49, none, none, none, some 50, none, some 51, none, some 52, some 53]] : List (List (Option Nat))).getD a []).getD k none
def rf1 : Nat → Nat → Option Nat := va_up (va_up rf0 0 (va_up (rf0 0) 2 (some 13))) 0 (va_up (va_up rf0 0 (va_up (rf0 0) 2 (some 13)) 0) 3 (some 7))
def xU (n : xN) : xM := (n.1, n.2, rf0)
def xU1 (n : xN) : xM := (n.1, n.2, rf1)
def mI (n : xN) (a k : Nat) (v : Int32) : xN := (va_up n.1 a (upd (n.1 a) k v), n.2)
def mJ (n : xN) (a k : Nat) (v : Int64) : xN := (n.1, va_up n.2 a (va_up (n.2 a) k v))
def mCp (n : xN) (a0 a1 : Nat) (sp dp c : Int32) : xN := (va_up n.1 a1 (va_cpy (n.1 a0) (n.1 a1) sp.toNatClampNeg dp.toNatClampNeg c.toNatClampNeg), n.2)
/-- a method: its code, its class, how many locals, what it returns, its depth -/
abbrev xMd : Type := ByteArray × String × Nat × Option FieldType × Nat
def xGm {O : Type} (md : xMd) (res : O → Option Value × xM) (x : Option O) (pc : Nat) (lv : List (Nat × Value)) (st : List Value) (u : xM) : Prop :=
  ∀ (p : Program) (l : Launch) (e : Env) (R : Room) (s : State) (m : MethodId) (args : Array Value) (below : List Frame) (meth : Method) (c : Code) (G : xG), xCx p R s m args meth c G md.1 md.2.1 md.2.2.1 md.2.2.2.2 0 0 → meth.sig.returnType = md.2.2.2.1 → meth.locks = false → ∀ o, x = some o → xGo p l e R s m args below meth c G md.2.2.1 0 0 (MQ below (xQc G (res o)) args s 0 0 (xA G)) pc lv st u
/-- what a contract says of a method -/
def xEm (md : xMd) (y : MethodName) (as : List Value) (u : xM) (o : Option Value × xM) : Prop := xEv y md.1 md.2.2.1 md.2.2.2.1 md.2.2.2.2 as u o
section XMs
variable {O : Type} {md : xMd} {res : O → Option Value × xM} {x x1 x2 : Option O} {pc : Nat} {lv : List (Nat × Value)} {st : List Value} {u : xM}
theorem xm_none : xGm md res none pc lv st u := fun _ _ _ _ _ _ _ _ _ _ _ _ _ _ o h => nomatch h
theorem xm_blk {bs : List Bool} {pc' : Nat} {lv' : List (Nat × Value)} {st' : List Value} {u' : xM} (blk : List xIn) (hok : xOk md.2.1 md.1 pc blk = true) (h : xRun md.2.2.1 blk pc lv st u = some (bs, pc', lv', st', u')) (k : xGm md res x pc' lv' st' u') : xGm md res (gdl bs x) pc lv st u := fun p l e R s m args below meth c G C hr hl o ho => by
  obtain ⟨h1, h2⟩ := gdl_some ho
  exact xRun_ok C blk hok h h1 (k p l e R s m args below meth c G C hr hl o h2)
theorem xm_wk {lv' : List (Nat × Value)} (ks : List Nat) (hk : lv_pick lv ks = lv') (k : xGm md res x pc lv' st u) : xGm md res x pc lv st u := fun p l e R s m args below meth c G C hr hl o ho => xg_wk ks hk (k p l e R s m args below meth c G C hr hl o ho)
theorem xm_goto {off : Int} {tgt : Nat} (hd : decode md.1 pc = .ok (.goto off, 3)) (ht : (pc : Int) + off = (tgt : Int)) (k : xGm md res x tgt lv st u) : xGm md res x pc lv st u := fun p l e R s m args below meth c G C hr hl o ho => xg_goto C hd ht (k p l e R s m args below meth c G C hr hl o ho)
theorem xm_icmp_eq {a b : Int32} {off : Int} {tgt : Nat} (hd : decode md.1 pc = .ok (.if_icmp .eq off, 3)) (ht : (pc : Int) + off = (tgt : Int)) (kt : xGm md res x1 tgt lv st u) (kf : xGm md res x2 (pc + 3) lv st u) : xGm md res (if a = b then x1 else x2) pc lv (.int b :: .int a :: st) u := fun p l e R s m args below meth c G C hr hl o ho => xg_icmp_eq C hd ht (fun h => kt p l e R s m args below meth c G C hr hl o (by rw [if_pos h] at ho; exact ho)) (fun h => kf p l e R s m args below meth c G C hr hl o (by rw [if_neg h] at ho; exact ho))
theorem xm_if_eq {a : Int32} {off : Int} {tgt : Nat} (hd : decode md.1 pc = .ok (.ifCond .eq off, 3)) (ht : (pc : Int) + off = (tgt : Int)) (kt : xGm md res x1 tgt lv st u) (kf : xGm md res x2 (pc + 3) lv st u) : xGm md res (if a = 0 then x1 else x2) pc lv (.int a :: st) u := fun p l e R s m args below meth c G C hr hl o ho => xg_if_eq C hd ht (fun h => kt p l e R s m args below meth c G C hr hl o (by rw [if_pos h] at ho; exact ho)) (fun h => kf p l e R s m args below meth c G C hr hl o (by rw [if_neg h] at ho; exact ho))
theorem xm_icmp_lt {a b : Int32} {off : Int} {tgt : Nat} (hd : decode md.1 pc = .ok (.if_icmp .lt off, 3)) (ht : (pc : Int) + off = (tgt : Int)) (kt : xGm md res x1 tgt lv st u) (kf : xGm md res x2 (pc + 3) lv st u) : xGm md res (if a < b then x1 else x2) pc lv (.int b :: .int a :: st) u := fun p l e R s m args below meth c G C hr hl o ho => xg_icmp_lt C hd ht (fun h => kt p l e R s m args below meth c G C hr hl o (by rw [if_pos h] at ho; exact ho)) (fun h => kf p l e R s m args below meth c G C hr hl o (by rw [if_neg h] at ho; exact ho))
theorem xm_if_lt {a : Int32} {off : Int} {tgt : Nat} (hd : decode md.1 pc = .ok (.ifCond .lt off, 3)) (ht : (pc : Int) + off = (tgt : Int)) (kt : xGm md res x1 tgt lv st u) (kf : xGm md res x2 (pc + 3) lv st u) : xGm md res (if a < 0 then x1 else x2) pc lv (.int a :: st) u := fun p l e R s m args below meth c G C hr hl o ho => xg_if_lt C hd ht (fun h => kt p l e R s m args below meth c G C hr hl o (by rw [if_pos h] at ho; exact ho)) (fun h => kf p l e R s m args below meth c G C hr hl o (by rw [if_neg h] at ho; exact ho))
theorem xm_icmp_le {a b : Int32} {off : Int} {tgt : Nat} (hd : decode md.1 pc = .ok (.if_icmp .le off, 3)) (ht : (pc : Int) + off = (tgt : Int)) (kt : xGm md res x1 tgt lv st u) (kf : xGm md res x2 (pc + 3) lv st u) : xGm md res (if a ≤ b then x1 else x2) pc lv (.int b :: .int a :: st) u := fun p l e R s m args below meth c G C hr hl o ho => xg_icmp_le C hd ht (fun h => kt p l e R s m args below meth c G C hr hl o (by rw [if_pos h] at ho; exact ho)) (fun h => kf p l e R s m args below meth c G C hr hl o (by rw [if_neg h] at ho; exact ho))
theorem xm_if_le {a : Int32} {off : Int} {tgt : Nat} (hd : decode md.1 pc = .ok (.ifCond .le off, 3)) (ht : (pc : Int) + off = (tgt : Int)) (kt : xGm md res x1 tgt lv st u) (kf : xGm md res x2 (pc + 3) lv st u) : xGm md res (if a ≤ 0 then x1 else x2) pc lv (.int a :: st) u := fun p l e R s m args below meth c G C hr hl o ho => xg_if_le C hd ht (fun h => kt p l e R s m args below meth c G C hr hl o (by rw [if_pos h] at ho; exact ho)) (fun h => kf p l e R s m args below meth c G C hr hl o (by rw [if_neg h] at ho; exact ho))
theorem xm_icmp_gt {a b : Int32} {off : Int} {tgt : Nat} (hd : decode md.1 pc = .ok (.if_icmp .gt off, 3)) (ht : (pc : Int) + off = (tgt : Int)) (kt : xGm md res x1 tgt lv st u) (kf : xGm md res x2 (pc + 3) lv st u) : xGm md res (if b < a then x1 else x2) pc lv (.int b :: .int a :: st) u := fun p l e R s m args below meth c G C hr hl o ho => xg_icmp_gt C hd ht (fun h => kt p l e R s m args below meth c G C hr hl o (by rw [if_pos h] at ho; exact ho)) (fun h => kf p l e R s m args below meth c G C hr hl o (by rw [if_neg h] at ho; exact ho))
theorem xm_if_gt {a : Int32} {off : Int} {tgt : Nat} (hd : decode md.1 pc = .ok (.ifCond .gt off, 3)) (ht : (pc : Int) + off = (tgt : Int)) (kt : xGm md res x1 tgt lv st u) (kf : xGm md res x2 (pc + 3) lv st u) : xGm md res (if 0 < a then x1 else x2) pc lv (.int a :: st) u := fun p l e R s m args below meth c G C hr hl o ho => xg_if_gt C hd ht (fun h => kt p l e R s m args below meth c G C hr hl o (by rw [if_pos h] at ho; exact ho)) (fun h => kf p l e R s m args below meth c G C hr hl o (by rw [if_neg h] at ho; exact ho))
theorem xm_icmp_ge {a b : Int32} {off : Int} {tgt : Nat} (hd : decode md.1 pc = .ok (.if_icmp .ge off, 3)) (ht : (pc : Int) + off = (tgt : Int)) (kt : xGm md res x1 tgt lv st u) (kf : xGm md res x2 (pc + 3) lv st u) : xGm md res (if b ≤ a then x1 else x2) pc lv (.int b :: .int a :: st) u := fun p l e R s m args below meth c G C hr hl o ho => xg_icmp_ge C hd ht (fun h => kt p l e R s m args below meth c G C hr hl o (by rw [if_pos h] at ho; exact ho)) (fun h => kf p l e R s m args below meth c G C hr hl o (by rw [if_neg h] at ho; exact ho))
theorem xm_if_ge {a : Int32} {off : Int} {tgt : Nat} (hd : decode md.1 pc = .ok (.ifCond .ge off, 3)) (ht : (pc : Int) + off = (tgt : Int)) (kt : xGm md res x1 tgt lv st u) (kf : xGm md res x2 (pc + 3) lv st u) : xGm md res (if 0 ≤ a then x1 else x2) pc lv (.int a :: st) u := fun p l e R s m args below meth c G C hr hl o ho => xg_if_ge C hd ht (fun h => kt p l e R s m args below meth c G C hr hl o (by rw [if_pos h] at ho; exact ho)) (fun h => kf p l e R s m args below meth c G C hr hl o (by rw [if_neg h] at ho; exact ho))
theorem xm_icmp_ne {a b : Int32} {off : Int} {tgt : Nat} (hd : decode md.1 pc = .ok (.if_icmp .ne off, 3)) (ht : (pc : Int) + off = (tgt : Int)) (kt : xGm md res x1 tgt lv st u) (kf : xGm md res x2 (pc + 3) lv st u) : xGm md res (if a = b then x2 else x1) pc lv (.int b :: .int a :: st) u := fun p l e R s m args below meth c G C hr hl o ho => xg_icmp_ne C hd ht (fun h => kt p l e R s m args below meth c G C hr hl o (by rw [if_neg h] at ho; exact ho)) (fun h => kf p l e R s m args below meth c G C hr hl o (by rw [if_pos h] at ho; exact ho))
theorem xm_if_ne {a : Int32} {off : Int} {tgt : Nat} (hd : decode md.1 pc = .ok (.ifCond .ne off, 3)) (ht : (pc : Int) + off = (tgt : Int)) (kt : xGm md res x1 tgt lv st u) (kf : xGm md res x2 (pc + 3) lv st u) : xGm md res (if a = 0 then x2 else x1) pc lv (.int a :: st) u := fun p l e R s m args below meth c G C hr hl o ho => xg_if_ne C hd ht (fun h => kt p l e R s m args below meth c G C hr hl o (by rw [if_neg h] at ho; exact ho)) (fun h => kf p l e R s m args below meth c G C hr hl o (by rw [if_pos h] at ho; exact ho))
theorem xm_tout {a : Int32} {dflt lo hi : Int} {offs : Array Int} {len tgt : Nat} (hd : decode md.1 pc = .ok (.tableswitch dflt lo hi offs, len)) (ht : (pc : Int) + dflt = (tgt : Int)) (k : xGm md res x1 tgt lv st u) (k2 : xGm md res x2 pc lv (.int a :: st) u) : xGm md res (if a.toInt < lo ∨ hi < a.toInt then x1 else x2) pc lv (.int a :: st) u := fun p l e R s m args below meth c G C hr hl o ho => by
  by_cases h : a.toInt < lo ∨ hi < a.toInt
  · rw [if_pos h] at ho
    exact xg_tout C hd h ht (k p l e R s m args below meth c G C hr hl o ho)
  · rw [if_neg h] at ho
    exact k2 p l e R s m args below meth c G C hr hl o ho
theorem xm_tin {a : Int32} (v : Int32) {dflt lo hi off : Int} {offs : Array Int} {len tgt : Nat} (hd : decode md.1 pc = .ok (.tableswitch dflt lo hi offs, len)) (h1 : ¬ v.toInt < lo) (h2 : ¬ hi < v.toInt) (ho : offs[(v.toInt - lo).toNat]? = some off) (ht : (pc : Int) + off = (tgt : Int)) (k : xGm md res x1 tgt lv st u) (k2 : xGm md res x2 pc lv (.int a :: st) u) : xGm md res (if a = v then x1 else x2) pc lv (.int a :: st) u := fun p l e R s m args below meth c G C hr hl o hx => by
  by_cases h : a = v
  · rw [if_pos h] at hx
    subst h
    exact xg_tin C hd h1 h2 ho ht (k p l e R s m args below meth c G C hr hl o hx)
  · rw [if_neg h] at hx
    exact k2 p l e R s m args below meth c G C hr hl o hx
/-- a place of the array of Standings: 24, 28, 32 -/
theorem xm_aald {n : xN} {i : Int32} {x0 : Option O} (hd : decode md.1 pc = .ok (.aaload, 1)) (k0 : xGm md res x0 (pc + 1) lv (.ref 24 :: st) (xU n)) (k1 : xGm md res x1 (pc + 1) lv (.ref 28 :: st) (xU n)) (k2 : xGm md res x2 (pc + 1) lv (.ref 32 :: st) (xU n)) : xGm md res (if i = 0 then x0 else if i = 1 then x1 else if i = 2 then x2 else none) pc lv (.int i :: .ref 23 :: st) (xU n) := fun p l e R s m args below meth c G C hr hl o ho => by
  split at ho
  · rename_i h
    subst h
    exact xg_aald C hd (by decide) rfl (k0 p l e R s m args below meth c G C hr hl o ho)
  · split at ho
    · rename_i h
      subst h
      exact xg_aald C hd (by decide) rfl (k1 p l e R s m args below meth c G C hr hl o ho)
    · split at ho
      · rename_i h
        subst h
        exact xg_aald C hd (by decide) rfl (k2 p l e R s m args below meth c G C hr hl o ho)
      · cases ho
theorem xm_aald1 {n : xN} {i : Int32} {x0 : Option O} (hd : decode md.1 pc = .ok (.aaload, 1)) (k0 : xGm md res x0 (pc + 1) lv (.ref 24 :: st) (xU1 n)) (k1 : xGm md res x1 (pc + 1) lv (.ref 28 :: st) (xU1 n)) (k2 : xGm md res x2 (pc + 1) lv (.ref 32 :: st) (xU1 n)) : xGm md res (if i = 0 then x0 else if i = 1 then x1 else if i = 2 then x2 else none) pc lv (.int i :: .ref 23 :: st) (xU1 n) := fun p l e R s m args below meth c G C hr hl o ho => by
  split at ho
  · rename_i h
    subst h
    exact xg_aald C hd (by decide) rfl (k0 p l e R s m args below meth c G C hr hl o ho)
  · split at ho
    · rename_i h
      subst h
      exact xg_aald C hd (by decide) rfl (k1 p l e R s m args below meth c G C hr hl o ho)
    · split at ho
      · rename_i h
        subst h
        exact xg_aald C hd (by decide) rfl (k2 p l e R s m args below meth c G C hr hl o ho)
      · cases ho
theorem xm_acopy {a0 a1 idx p1 : Nat} {sp dp n : Int32} (n0 n1 : Nat) (hd : decode md.1 pc = .ok (.invokestatic idx, 3)) (hlk : lw_tbl[p1]? = some (Cond.methodLink md.2.1 idx arraycopyName)) (h1 : xSh a0 = (1, n0)) (h2 : xSh a1 = (1, n1)) (l0 : a0 < 54) (l1 : a1 < 54) (hd1 : 1 ≤ md.2.2.2.2) (hst : (st.map fun v => v.category).sum ≤ 8) (k : xGm md res x (pc + 3) lv st (xCp u a0 a1 sp dp n)) : xGm md res (gdl [cpok sp dp n n0 n1] x) pc lv (.int n :: .int dp :: .ref a1 :: .int sp :: .ref a0 :: st) u := fun p l e R s m args below meth c G C hr hl o ho => by
  obtain ⟨b1, b2⟩ := gdl_some ho
  exact xg_acopy C hd (xLk hlk rfl) h1 h2 l0 l1 (b1 _ List.mem_cons_self) hd1 hst (k p l e R s m args below meth c G C hr hl o b2)
theorem xm_iret {o : O} {v : Int32} (hd : decode md.1 pc = .ok (.ireturn, 1)) (hr : md.2.2.2.1 = some .int) (h : res o = (some (.int v), u)) : xGm md res (some o) pc lv [.int v] u := fun p l e R s m args below meth c G C hret hl o' ho => by
  cases ho
  intro H locs ls hlv hP hS
  exact W.iret C.1 C.2.1 (hret.trans hr) (fun t ht hW => ⟨by rw [h]; rfl, by rw [h, ht]; exact hP, hS.F ht⟩) hS.2.2 hd hl
theorem xm_lret {o : O} {v : Int64} (hd : decode md.1 pc = .ok (.lreturn, 1)) (hr : md.2.2.2.1 = some .long) (h : res o = (some (.long v), u)) : xGm md res (some o) pc lv [.long v] u := fun p l e R s m args below meth c G C hret hl o' ho => by
  cases ho
  intro H locs ls hlv hP hS
  exact W.lret C.1 C.2.1 (hret.trans hr) (fun t ht hW => ⟨by rw [h]; rfl, by rw [h, ht]; exact hP, hS.F ht⟩) hS.2.2 hd hl
theorem xm_vret {o : O} (hd : decode md.1 pc = .ok (.return_, 1)) (hr : md.2.2.2.1 = none) (h : res o = (none, u)) : xGm md res (some o) pc lv [] u := fun p l e R s m args below meth c G C hret hl o' ho => by
  cases ho
  intro H locs ls hlv hP hS
  exact W.vret C.1 C.2.1 (hret.trans hr) (fun t ht hW => ⟨by rw [h]; rfl, by rw [h, ht]; exact hP, hS.F ht⟩) hS.2.2 hd hl
theorem xm_zret0 {o : O} {v : Int32} (hd : decode md.1 pc = .ok (.ireturn, 1)) (hr : md.2.2.2.1 = some .boolean) (hv : isb v = true) (h : res o = (some (.int v), u)) : xGm md res (some o) pc lv [.int v] u := fun p l e R s m args below meth c G C hret hl o' ho => by
  cases ho
  intro H locs ls hlv hP hS
  have hy := isb_or hv
  exact W.zret C.1 C.2.1 (hret.trans hr) (by rcases hy with rfl | rfl <;> rfl) (fun t ht hW => ⟨by rw [h]; rfl, by rw [h, ht]; exact hP, hS.F ht⟩) hS.2.2 hd hl
theorem xm_zret {o : O} {v : Int32} (hd : decode md.1 pc = .ok (.ireturn, 1)) (hr : md.2.2.2.1 = some .boolean) (h : res o = (some (.int v), u)) : xGm md res (gdl [isb v] (some o)) pc lv [.int v] u := fun p l e R s m args below meth c G C hret hl o' ho => by
  obtain ⟨b1, b2⟩ := gdl_some ho
  exact xm_zret0 hd hr (b1 _ List.mem_cons_self) h p l e R s m args below meth c G C hret hl o' b2
theorem xm_met {y : MethodName} {as : List Value} (h : xGm md res x 0 (lv_args 0 as) [] u) (hpl : plainName y.cls = true) (hown : y.cls = md.2.1) (hlen : (lg_sl as).length ≤ md.2.2.1) : ∀ o, x = some o → xEm md y as u (res o) := by
  intro o ho l G
  refine Met.ofW (cc := md.1) (maxL := md.2.2.1) (ret := md.2.2.2.1) hpl rfl ?_
  intro p e s m args below meth c s₁ B hml hv
  obtain ⟨rfl, hP, hWo⟩ := hv
  have hts := atoms_spec (ws := .code y md.1 md.2.2.1 md.2.2.2.1 :: lw_g) B.pre
  have hsl : (lg_sl (as.map (xc G))).length = (lg_sl as).length := by
    clear h ho hlen hP hts B
    induction as with
    | nil => rfl
    | cons v vs ih =>
      have e1 : ∀ (v : Value) (vs : List Value), (lg_sl (v :: vs)).length = (if v.category = 2 then 2 else 1) + (lg_sl vs).length := by
        intro v vs
        simp only [lg_sl, List.flatMap_cons, List.length_append]
        split <;> rfl
      rw [List.map_cons, e1, e1, xc_cat, ih]
  have C : xCx p (headSpec (.code y md.1 md.2.2.1 md.2.2.2.1 :: lw_g) (xRm md.2.2.2.2)).room s m (as.map (xc G)).toArray meth c G md.1 md.2.1 md.2.2.1 md.2.2.2.2 0 0 := ⟨B.exec, B.bytes, hml, by rw [← hown]; exact findClass_of_methodNamed B.named, fun w hw => hts w (List.mem_cons_of_mem _ hw), hWo, Nat.le_refl _, Nat.le_refl _, Nat.zero_le _, Nat.zero_le _⟩
  rw [lg_entry_eq]
  refine h p l e _ s m _ below meth c G C B.returns B.notSynchronized o ho s.heap [] _ ?_ hP va_S.rf
  have hl := lv_entry (as.map (xc G)) (n := md.2.2.1) (by rw [hsl]; exact hlen)
  rw [lv_args_xc] at hl
  exact hl
theorem xm_Vi {mz : xMd} {y : MethodName} {n idx a ci p1 : Nat} {as : List Value} {f : Option Int32} {kx : Int32 → Option O} (hM : ∀ r, f = some r → xEm mz y (.ref a :: as) u (some (.int r), u)) (hw : xMv y mz.1 mz.2.2.1 mz.2.2.2.1 n) (hd : decode md.1 pc = .ok (.invokevirtual idx, 3)) (hlk : lw_tbl[p1]? = some (Cond.methodLink md.2.1 idx y)) (hlt : mz.2.2.2.2 < md.2.2.2.2 ∧ mz.2.2.1 ≤ 40) (hn : as.length = n) (hsh : xSh a = (0, ci)) (ha : a < 54 ∧ ci < 5) (hcls : xRn ci = y.cls) (hst : (st.map fun v => v.category).sum ≤ 8) (k : ∀ r : Int32, xGm md res (kx r) (pc + 3) lv (.int r :: st) u) : xGm md res (Option.bind f kx) pc lv (as.reverse ++ .ref a :: st) u := fun p l e R s m args below meth c G C hr hl o ho => by
  obtain ⟨r, h1, h2⟩ := Option.bind_eq_some_iff.mp ho
  exact xg_callV C (hM r h1) hw hd (xLk hlk rfl) hlt.1 hlt.2 hn hsh ha.1 ha.2 hcls hst (k r p l e R s m args below meth c G C hr hl o h2)
theorem xm_Si {mz : xMd} {y : MethodName} {n idx p1 : Nat} {as : List Value} {f : Option Int32} {kx : Int32 → Option O} (hM : ∀ r, f = some r → xEm mz y as u (some (.int r), u)) (hw : xMs y mz.1 mz.2.2.1 mz.2.2.2.1 n) (hd : decode md.1 pc = .ok (.invokestatic idx, 3)) (hlk : lw_tbl[p1]? = some (Cond.methodLink md.2.1 idx y)) (hlt : mz.2.2.2.2 < md.2.2.2.2 ∧ mz.2.2.1 ≤ 40) (hn : as.length = n) (hst : (st.map fun v => v.category).sum ≤ 8) (k : ∀ r : Int32, xGm md res (kx r) (pc + 3) lv (.int r :: st) u) : xGm md res (Option.bind f kx) pc lv (as.reverse ++ st) u := fun p l e R s m args below meth c G C hr hl o ho => by
  obtain ⟨r, h1, h2⟩ := Option.bind_eq_some_iff.mp ho
  exact xg_callS C (hM r h1) hw hd (xLk hlk rfl) hlt.1 hlt.2 hn hst (k r p l e R s m args below meth c G C hr hl o h2)
theorem xm_Ni {mz : xMd} {y : MethodName} {n idx : Nat} {as : List Value} {host : String} {f : Option Int32} {kx : Int32 → Option O} (hM : ∀ r, f = some r → xEm mz y as u (some (.int r), u)) (hw : xMs y mz.1 mz.2.2.1 mz.2.2.2.1 n) (hd : decode md.1 pc = .ok (.invokestatic idx, 3)) (hlk : ∀ s, xNst s → va_Nw (.methodLinkNest md.2.1 idx y host) s) (hlt : mz.2.2.2.2 < md.2.2.2.2 ∧ mz.2.2.1 ≤ 40) (hn : as.length = n) (hst : (st.map fun v => v.category).sum ≤ 8) (k : ∀ r : Int32, xGm md res (kx r) (pc + 3) lv (.int r :: st) u) : xGm md res (Option.bind f kx) pc lv (as.reverse ++ st) u := fun p l e R s m args below meth c G C hr hl o ho => by
  obtain ⟨r, h1, h2⟩ := Option.bind_eq_some_iff.mp ho
  exact xg_callN C (hM r h1) hw hd (hlk s) hlt.1 hlt.2 hn hst (k r p l e R s m args below meth c G C hr hl o h2)
theorem xm_Vl {mz : xMd} {y : MethodName} {n idx a ci p1 : Nat} {as : List Value} {f : Option Int64} {kx : Int64 → Option O} (hM : ∀ r, f = some r → xEm mz y (.ref a :: as) u (some (.long r), u)) (hw : xMv y mz.1 mz.2.2.1 mz.2.2.2.1 n) (hd : decode md.1 pc = .ok (.invokevirtual idx, 3)) (hlk : lw_tbl[p1]? = some (Cond.methodLink md.2.1 idx y)) (hlt : mz.2.2.2.2 < md.2.2.2.2 ∧ mz.2.2.1 ≤ 40) (hn : as.length = n) (hsh : xSh a = (0, ci)) (ha : a < 54 ∧ ci < 5) (hcls : xRn ci = y.cls) (hst : (st.map fun v => v.category).sum ≤ 8) (k : ∀ r : Int64, xGm md res (kx r) (pc + 3) lv (.long r :: st) u) : xGm md res (Option.bind f kx) pc lv (as.reverse ++ .ref a :: st) u := fun p l e R s m args below meth c G C hr hl o ho => by
  obtain ⟨r, h1, h2⟩ := Option.bind_eq_some_iff.mp ho
  exact xg_callV C (hM r h1) hw hd (xLk hlk rfl) hlt.1 hlt.2 hn hsh ha.1 ha.2 hcls hst (k r p l e R s m args below meth c G C hr hl o h2)
theorem xm_Sl {mz : xMd} {y : MethodName} {n idx p1 : Nat} {as : List Value} {f : Option Int64} {kx : Int64 → Option O} (hM : ∀ r, f = some r → xEm mz y as u (some (.long r), u)) (hw : xMs y mz.1 mz.2.2.1 mz.2.2.2.1 n) (hd : decode md.1 pc = .ok (.invokestatic idx, 3)) (hlk : lw_tbl[p1]? = some (Cond.methodLink md.2.1 idx y)) (hlt : mz.2.2.2.2 < md.2.2.2.2 ∧ mz.2.2.1 ≤ 40) (hn : as.length = n) (hst : (st.map fun v => v.category).sum ≤ 8) (k : ∀ r : Int64, xGm md res (kx r) (pc + 3) lv (.long r :: st) u) : xGm md res (Option.bind f kx) pc lv (as.reverse ++ st) u := fun p l e R s m args below meth c G C hr hl o ho => by
  obtain ⟨r, h1, h2⟩ := Option.bind_eq_some_iff.mp ho
  exact xg_callS C (hM r h1) hw hd (xLk hlk rfl) hlt.1 hlt.2 hn hst (k r p l e R s m args below meth c G C hr hl o h2)
theorem xm_Nl {mz : xMd} {y : MethodName} {n idx : Nat} {as : List Value} {host : String} {f : Option Int64} {kx : Int64 → Option O} (hM : ∀ r, f = some r → xEm mz y as u (some (.long r), u)) (hw : xMs y mz.1 mz.2.2.1 mz.2.2.2.1 n) (hd : decode md.1 pc = .ok (.invokestatic idx, 3)) (hlk : ∀ s, xNst s → va_Nw (.methodLinkNest md.2.1 idx y host) s) (hlt : mz.2.2.2.2 < md.2.2.2.2 ∧ mz.2.2.1 ≤ 40) (hn : as.length = n) (hst : (st.map fun v => v.category).sum ≤ 8) (k : ∀ r : Int64, xGm md res (kx r) (pc + 3) lv (.long r :: st) u) : xGm md res (Option.bind f kx) pc lv (as.reverse ++ st) u := fun p l e R s m args below meth c G C hr hl o ho => by
  obtain ⟨r, h1, h2⟩ := Option.bind_eq_some_iff.mp ho
  exact xg_callN C (hM r h1) hw hd (hlk s) hlt.1 hlt.2 hn hst (k r p l e R s m args below meth c G C hr hl o h2)
theorem xm_Vm {mz : xMd} {y : MethodName} {n idx a ci p1 : Nat} {as : List Value} {f : Option (Int32 × xN)} {kx : Int32 × xN → Option O} (hM : ∀ r, f = some r → xEm mz y (.ref a :: as) u (some (.int r.1), xU r.2)) (hw : xMv y mz.1 mz.2.2.1 mz.2.2.2.1 n) (hd : decode md.1 pc = .ok (.invokevirtual idx, 3)) (hlk : lw_tbl[p1]? = some (Cond.methodLink md.2.1 idx y)) (hlt : mz.2.2.2.2 < md.2.2.2.2 ∧ mz.2.2.1 ≤ 40) (hn : as.length = n) (hsh : xSh a = (0, ci)) (ha : a < 54 ∧ ci < 5) (hcls : xRn ci = y.cls) (hst : (st.map fun v => v.category).sum ≤ 8) (k : ∀ r : Int32 × xN, xGm md res (kx r) (pc + 3) lv (.int r.1 :: st) (xU r.2)) : xGm md res (Option.bind f kx) pc lv (as.reverse ++ .ref a :: st) u := fun p l e R s m args below meth c G C hr hl o ho => by
  obtain ⟨r, h1, h2⟩ := Option.bind_eq_some_iff.mp ho
  exact xg_callV C (hM r h1) hw hd (xLk hlk rfl) hlt.1 hlt.2 hn hsh ha.1 ha.2 hcls hst (k r p l e R s m args below meth c G C hr hl o h2)
theorem xm_Sm {mz : xMd} {y : MethodName} {n idx p1 : Nat} {as : List Value} {f : Option (Int32 × xN)} {kx : Int32 × xN → Option O} (hM : ∀ r, f = some r → xEm mz y as u (some (.int r.1), xU r.2)) (hw : xMs y mz.1 mz.2.2.1 mz.2.2.2.1 n) (hd : decode md.1 pc = .ok (.invokestatic idx, 3)) (hlk : lw_tbl[p1]? = some (Cond.methodLink md.2.1 idx y)) (hlt : mz.2.2.2.2 < md.2.2.2.2 ∧ mz.2.2.1 ≤ 40) (hn : as.length = n) (hst : (st.map fun v => v.category).sum ≤ 8) (k : ∀ r : Int32 × xN, xGm md res (kx r) (pc + 3) lv (.int r.1 :: st) (xU r.2)) : xGm md res (Option.bind f kx) pc lv (as.reverse ++ st) u := fun p l e R s m args below meth c G C hr hl o ho => by
  obtain ⟨r, h1, h2⟩ := Option.bind_eq_some_iff.mp ho
  exact xg_callS C (hM r h1) hw hd (xLk hlk rfl) hlt.1 hlt.2 hn hst (k r p l e R s m args below meth c G C hr hl o h2)
theorem xm_Nm {mz : xMd} {y : MethodName} {n idx : Nat} {as : List Value} {host : String} {f : Option (Int32 × xN)} {kx : Int32 × xN → Option O} (hM : ∀ r, f = some r → xEm mz y as u (some (.int r.1), xU r.2)) (hw : xMs y mz.1 mz.2.2.1 mz.2.2.2.1 n) (hd : decode md.1 pc = .ok (.invokestatic idx, 3)) (hlk : ∀ s, xNst s → va_Nw (.methodLinkNest md.2.1 idx y host) s) (hlt : mz.2.2.2.2 < md.2.2.2.2 ∧ mz.2.2.1 ≤ 40) (hn : as.length = n) (hst : (st.map fun v => v.category).sum ≤ 8) (k : ∀ r : Int32 × xN, xGm md res (kx r) (pc + 3) lv (.int r.1 :: st) (xU r.2)) : xGm md res (Option.bind f kx) pc lv (as.reverse ++ st) u := fun p l e R s m args below meth c G C hr hl o ho => by
  obtain ⟨r, h1, h2⟩ := Option.bind_eq_some_iff.mp ho
  exact xg_callN C (hM r h1) hw hd (hlk s) hlt.1 hlt.2 hn hst (k r p l e R s m args below meth c G C hr hl o h2)
theorem xm_Vv {mz : xMd} {y : MethodName} {n idx a ci p1 : Nat} {as : List Value} {f : Option xN} {kx : xN → Option O} (hM : ∀ r, f = some r → xEm mz y (.ref a :: as) u (none, xU r)) (hw : xMv y mz.1 mz.2.2.1 mz.2.2.2.1 n) (hd : decode md.1 pc = .ok (.invokevirtual idx, 3)) (hlk : lw_tbl[p1]? = some (Cond.methodLink md.2.1 idx y)) (hlt : mz.2.2.2.2 < md.2.2.2.2 ∧ mz.2.2.1 ≤ 40) (hn : as.length = n) (hsh : xSh a = (0, ci)) (ha : a < 54 ∧ ci < 5) (hcls : xRn ci = y.cls) (hst : (st.map fun v => v.category).sum ≤ 8) (k : ∀ r : xN, xGm md res (kx r) (pc + 3) lv st (xU r)) : xGm md res (Option.bind f kx) pc lv (as.reverse ++ .ref a :: st) u := fun p l e R s m args below meth c G C hr hl o ho => by
  obtain ⟨r, h1, h2⟩ := Option.bind_eq_some_iff.mp ho
  exact xg_callV C (hM r h1) hw hd (xLk hlk rfl) hlt.1 hlt.2 hn hsh ha.1 ha.2 hcls hst (k r p l e R s m args below meth c G C hr hl o h2)
theorem xm_Sv {mz : xMd} {y : MethodName} {n idx p1 : Nat} {as : List Value} {f : Option xN} {kx : xN → Option O} (hM : ∀ r, f = some r → xEm mz y as u (none, xU r)) (hw : xMs y mz.1 mz.2.2.1 mz.2.2.2.1 n) (hd : decode md.1 pc = .ok (.invokestatic idx, 3)) (hlk : lw_tbl[p1]? = some (Cond.methodLink md.2.1 idx y)) (hlt : mz.2.2.2.2 < md.2.2.2.2 ∧ mz.2.2.1 ≤ 40) (hn : as.length = n) (hst : (st.map fun v => v.category).sum ≤ 8) (k : ∀ r : xN, xGm md res (kx r) (pc + 3) lv st (xU r)) : xGm md res (Option.bind f kx) pc lv (as.reverse ++ st) u := fun p l e R s m args below meth c G C hr hl o ho => by
  obtain ⟨r, h1, h2⟩ := Option.bind_eq_some_iff.mp ho
  exact xg_callS C (hM r h1) hw hd (xLk hlk rfl) hlt.1 hlt.2 hn hst (k r p l e R s m args below meth c G C hr hl o h2)
theorem xm_Nv {mz : xMd} {y : MethodName} {n idx : Nat} {as : List Value} {host : String} {f : Option xN} {kx : xN → Option O} (hM : ∀ r, f = some r → xEm mz y as u (none, xU r)) (hw : xMs y mz.1 mz.2.2.1 mz.2.2.2.1 n) (hd : decode md.1 pc = .ok (.invokestatic idx, 3)) (hlk : ∀ s, xNst s → va_Nw (.methodLinkNest md.2.1 idx y host) s) (hlt : mz.2.2.2.2 < md.2.2.2.2 ∧ mz.2.2.1 ≤ 40) (hn : as.length = n) (hst : (st.map fun v => v.category).sum ≤ 8) (k : ∀ r : xN, xGm md res (kx r) (pc + 3) lv st (xU r)) : xGm md res (Option.bind f kx) pc lv (as.reverse ++ st) u := fun p l e R s m args below meth c G C hr hl o ho => by
  obtain ⟨r, h1, h2⟩ := Option.bind_eq_some_iff.mp ho
  exact xg_callN C (hM r h1) hw hd (hlk s) hlt.1 hlt.2 hn hst (k r p l e R s m args below meth c G C hr hl o h2)
theorem xm_Vw {mz : xMd} {y : MethodName} {n idx a ci p1 : Nat} {as : List Value} {f : Option xN} {kx : xN → Option O} (hM : ∀ r, f = some r → xEm mz y (.ref a :: as) u (none, xU1 r)) (hw : xMv y mz.1 mz.2.2.1 mz.2.2.2.1 n) (hd : decode md.1 pc = .ok (.invokevirtual idx, 3)) (hlk : lw_tbl[p1]? = some (Cond.methodLink md.2.1 idx y)) (hlt : mz.2.2.2.2 < md.2.2.2.2 ∧ mz.2.2.1 ≤ 40) (hn : as.length = n) (hsh : xSh a = (0, ci)) (ha : a < 54 ∧ ci < 5) (hcls : xRn ci = y.cls) (hst : (st.map fun v => v.category).sum ≤ 8) (k : ∀ r : xN, xGm md res (kx r) (pc + 3) lv st (xU1 r)) : xGm md res (Option.bind f kx) pc lv (as.reverse ++ .ref a :: st) u := fun p l e R s m args below meth c G C hr hl o ho => by
  obtain ⟨r, h1, h2⟩ := Option.bind_eq_some_iff.mp ho
  exact xg_callV C (hM r h1) hw hd (xLk hlk rfl) hlt.1 hlt.2 hn hsh ha.1 ha.2 hcls hst (k r p l e R s m args below meth c G C hr hl o h2)
end XMs
theorem xm_blk0 {O : Type} {md : xMd} {res : O → Option Value × xM} {x : Option O} {pc : Nat} {lv : List (Nat × Value)} {st : List Value} {u : xM} {pc' : Nat} {lv' : List (Nat × Value)} {st' : List Value} {u' : xM} (blk : List xIn) (hok : xOk md.2.1 md.1 pc blk = true) (h : xRun md.2.2.1 blk pc lv st u = some ([], pc', lv', st', u')) (k : xGm md res x pc' lv' st' u') : xGm md res x pc lv st u := xm_blk (bs := []) blk hok h k
def rsI (u : xM) : Int32 → Option Value × xM := fun r => (some (.int r), u)
def rsL (u : xM) : Int64 → Option Value × xM := fun r => (some (.long r), u)
def rsM : Int32 × xN → Option Value × xM := fun o => (some (.int o.1), xU o.2)
def rsV : xN → Option Value × xM := fun o => (none, xU o)
def rsW : xN → Option Value × xM := fun o => (none, xU1 o)
def rsC : Int32 × xN × Bool → Option Value × xM := fun o => (some (.int o.1), if o.2.2 = true then xU1 o.2.1 else xU o.2.1)
end
section
theorem mw_X4_bits : xMs yX4_bits cX4_bits 3 (some .int) 1 := xMs_of (p1 := 1092) (p2 := 1091) (p3 := 97) (by decide +kernel)
/-! NeitherBareModel.bits(I)I  -/
abbrev md_X4_bits : xMd := (cX4_bits, RX4, 3, some .int, 1)
def f_X4_bits_L4b (N : Nat) (rec4 : Int32 → Int32 → Int32 → Option Int32) (v0 : Int32) (v1 : Int32) (v2 : Int32) : Option Int32 := if (13 : Int32) ≤ v2 then some v1 else rec4 v0 (v1 + ((v0 >>> (v2 &&& 31)) &&& (1 : Int32))) (v2 + (1 : Int32))
set_option maxRecDepth 20000 in
theorem go_X4_bits_L4b (N : Nat) (u : xN) (rec4 : Int32 → Int32 → Int32 → Option Int32) (h4 : ∀ (v0 : Int32) (v1 : Int32) (v2 : Int32), xGm md_X4_bits (rsI (xU u)) (rec4 v0 v1 v2) 4 [(0, .int v0), (1, .int v1), (2, .int v2)] [] (xU u)) (v0 : Int32) (v1 : Int32) (v2 : Int32) : xGm md_X4_bits (rsI (xU u)) (f_X4_bits_L4b N rec4 v0 v1 v2) 4 [(0, .int v0), (1, .int v1), (2, .int v2)] [] (xU u) := by
  unfold f_X4_bits_L4b
  refine xm_blk0 (pc' := 7) (lv' := [(0, .int v0), (1, .int v1), (2, .int v2)]) (st' := [.int (13 : Int32), .int v2]) (u' := (xU u)) [(.iload_n 2, (0, 0, 0), 0, 0), (.bipush 13, (0, 0, 0), 13, 0)] (by decide +kernel) rfl ?_
  refine xm_icmp_ge (pc := 7) (off := 17) (tgt := 24) (by decide +kernel) (by decide) ?_ ?_
  · refine xm_blk0 (pc' := 25) (lv' := [(0, .int v0), (1, .int v1), (2, .int v2)]) (st' := [.int v1]) (u' := (xU u)) [(.iload_n 1, (0, 0, 0), 0, 0)] (by decide +kernel) rfl ?_
    exact xm_iret (pc := 25) (by decide +kernel) rfl rfl
  · refine xm_blk0 (pc' := 21) (lv' := [(0, .int v0), (1, .int (v1 + ((v0 >>> (v2 &&& 31)) &&& (1 : Int32)))), (2, .int (v2 + (1 : Int32)))]) (st' := []) (u' := (xU u)) [(.iload_n 1, (0, 0, 0), 0, 0), (.iload_n 0, (0, 0, 0), 0, 0), (.iload_n 2, (0, 0, 0), 0, 0), (.ishr, (0, 0, 0), 0, 0), (.iconst 1, (0, 0, 0), 1, 0), (.iand, (0, 0, 0), 0, 0), (.iadd, (0, 0, 0), 0, 0), (.istore_n 1, (0, 0, 0), 0, 0), (.iinc 2 1, (0, 0, 0), 1, 0)] (by decide +kernel) rfl ?_
    refine xm_goto (pc := 21) (off := -17) (tgt := 4) (by decide +kernel) (by decide) ?_
    exact h4 v0 (v1 + ((v0 >>> (v2 &&& 31)) &&& (1 : Int32))) (v2 + (1 : Int32))
def f_X4_bits_L4 (N : Nat) : Nat → Int32 → Int32 → Int32 → Option Int32
  | 0 => fun _ _ _ => none
  | n + 1 => fun v0 v1 v2 => f_X4_bits_L4b N (f_X4_bits_L4 N n) v0 v1 v2
theorem go_X4_bits_L4 (N : Nat) (u : xN) : ∀ (n : Nat) (v0 : Int32) (v1 : Int32) (v2 : Int32), xGm md_X4_bits (rsI (xU u)) (f_X4_bits_L4 N n v0 v1 v2) 4 [(0, .int v0), (1, .int v1), (2, .int v2)] [] (xU u) := by
  intro n
  induction n with
  | zero => intro v0 v1 v2; exact xm_none
  | succ n ih => intro v0 v1 v2; exact go_X4_bits_L4b N u _ ih v0 v1 v2
def f_X4_bits (N : Nat) (a0 : Int32) : Option Int32 := f_X4_bits_L4 N N a0 (0 : Int32) (0 : Int32)
set_option maxRecDepth 20000 in
theorem go_X4_bits (N : Nat) (a0 : Int32) (u : xN) : xGm md_X4_bits (rsI (xU u)) (f_X4_bits N a0) 0 [(0, .int a0)] [] (xU u) := by
  unfold f_X4_bits
  refine xm_blk0 (pc' := 4) (lv' := [(0, .int a0), (1, .int (0 : Int32)), (2, .int (0 : Int32))]) (st' := []) (u' := (xU u)) [(.iconst 0, (0, 0, 0), 0, 0), (.istore_n 1, (0, 0, 0), 0, 0), (.iconst 0, (0, 0, 0), 0, 0), (.istore_n 2, (0, 0, 0), 0, 0)] (by decide +kernel) rfl ?_
  exact go_X4_bits_L4 N u N a0 (0 : Int32) (0 : Int32)
theorem ev_X4_bits (N : Nat) (a0 : Int32) (u : xN) : ∀ r, f_X4_bits N a0 = some r → xEm md_X4_bits yX4_bits [.int a0] (xU u) (some (.int r), (xU u)) := xm_met (res := (rsI (xU u))) (as := [.int a0]) (go_X4_bits N a0 u) (by decide) rfl (Nat.le_of_ble_eq_true rfl)
theorem mw_X4_in : xMs yX4_in cX4_in 6 (some .boolean) 3 := xMs_of (p1 := 907) (p2 := 906) (p3 := 97) (by decide +kernel)
/-! NeitherBareModel.in(JJJ)Z  -/
abbrev md_X4_in : xMd := (cX4_in, RX4, 6, some .boolean, 1)
def f_X4_in_L18 (t0 : Int32) : Option Int32 := gdl [isb t0] (some t0)
set_option maxRecDepth 20000 in
theorem go_X4_in_L18 (u : xN) (t0 : Int32) : xGm md_X4_in (rsI (xU u)) (f_X4_in_L18 t0) 18 [] [.int t0] (xU u) := by
  unfold f_X4_in_L18
  exact xm_zret (pc := 18) (by decide +kernel) rfl rfl
def f_X4_in_L17  : Option Int32 := f_X4_in_L18 (0 : Int32)
set_option maxRecDepth 20000 in
theorem go_X4_in_L17 (u : xN) : xGm md_X4_in (rsI (xU u)) (f_X4_in_L17) 17 [] [] (xU u) := by
  unfold f_X4_in_L17
  refine xm_blk0 (pc' := 18) (lv' := []) (st' := [.int (0 : Int32)]) (u' := (xU u)) [(.iconst 0, (0, 0, 0), 0, 0)] (by decide +kernel) rfl ?_
  exact go_X4_in_L18 u (0 : Int32)
def f_X4_in (a0 : Int64) (a2 : Int64) (a4 : Int64) : Option Int32 := if (lg_cmp a0 a2) < (0 : Int32) then f_X4_in_L17 else if (0 : Int32) < (lg_cmp a0 a4) then f_X4_in_L17 else f_X4_in_L18 (1 : Int32)
set_option maxRecDepth 20000 in
theorem go_X4_in (a0 : Int64) (a2 : Int64) (a4 : Int64) (u : xN) : xGm md_X4_in (rsI (xU u)) (f_X4_in a0 a2 a4) 0 [(0, .long a0), (2, .long a2), (4, .long a4)] [] (xU u) := by
  unfold f_X4_in
  refine xm_blk0 (pc' := 3) (lv' := [(0, .long a0), (2, .long a2), (4, .long a4)]) (st' := [.int (lg_cmp a0 a2)]) (u' := (xU u)) [(.lload_n 0, (0, 0, 0), 0, 0), (.lload_n 2, (0, 0, 0), 0, 0), (.lcmp, (0, 0, 0), 0, 0)] (by decide +kernel) rfl ?_
  refine xm_if_lt (pc := 3) (off := 14) (tgt := 17) (by decide +kernel) (by decide) ?_ ?_
  · refine xm_wk [] (lv' := []) rfl ?_
    exact go_X4_in_L17 u
  · refine xm_blk0 (pc' := 10) (lv' := [(0, .long a0), (2, .long a2), (4, .long a4)]) (st' := [.int (lg_cmp a0 a4)]) (u' := (xU u)) [(.lload_n 0, (0, 0, 0), 0, 0), (.lload 4, (0, 0, 0), 0, 0), (.lcmp, (0, 0, 0), 0, 0)] (by decide +kernel) rfl ?_
    refine xm_if_gt (pc := 10) (off := 7) (tgt := 17) (by decide +kernel) (by decide) ?_ ?_
    · refine xm_wk [] (lv' := []) rfl ?_
      exact go_X4_in_L17 u
    · refine xm_blk0 (pc' := 14) (lv' := [(0, .long a0), (2, .long a2), (4, .long a4)]) (st' := [.int (1 : Int32)]) (u' := (xU u)) [(.iconst 1, (0, 0, 0), 1, 0)] (by decide +kernel) rfl ?_
      refine xm_goto (pc := 14) (off := 4) (tgt := 18) (by decide +kernel) (by decide) ?_
      refine xm_wk [] (lv' := []) rfl ?_
      exact go_X4_in_L18 u (1 : Int32)
theorem ev_X4_in (a0 : Int64) (a2 : Int64) (a4 : Int64) (u : xN) : ∀ r, f_X4_in a0 a2 a4 = some r → xEm md_X4_in yX4_in [.long a0, .long a2, .long a4] (xU u) (some (.int r), (xU u)) := xm_met (res := (rsI (xU u))) (as := [.long a0, .long a2, .long a4]) (go_X4_in a0 a2 a4 u) (by decide) rfl (Nat.le_of_ble_eq_true rfl)
theorem mw_X4_isRow : xMs yX4_isRow cX4_isRow 1 (some .boolean) 1 := xMs_of (p1 := 903) (p2 := 902) (p3 := 97) (by decide +kernel)
/-! NeitherBareModel.isRow(I)Z  -/
abbrev md_X4_isRow : xMd := (cX4_isRow, RX4, 1, some .boolean, 2)
def f_X4_isRow (a0 : Int32) : Option Int32 := Option.bind (f_X4_in (Int32.toInt64 a0) (0 : Int64) (5 : Int64)) (fun r6 => gdl [isb r6] (some r6))
set_option maxRecDepth 20000 in
theorem go_X4_isRow (a0 : Int32) (u : xN) : xGm md_X4_isRow (rsI (xU u)) (f_X4_isRow a0) 0 [(0, .int a0)] [] (xU u) := by
  unfold f_X4_isRow
  refine xm_blk0 (pc' := 6) (lv' := [(0, .int a0)]) (st' := [.long (5 : Int64), .long (0 : Int64), .long (Int32.toInt64 a0)]) (u' := (xU u)) [(.iload_n 0, (0, 0, 0), 0, 0), (.i2l, (0, 0, 0), 0, 0), (.lconst 0, (0, 0, 0), 0, 0), (.ldc2_w 70, (0, 0, 904), 0, 5)] (by decide +kernel) rfl ?_
  refine xm_Si (pc := 6) (mz := md_X4_in) (idx := 72) (p1 := 905) (as := [.long (Int32.toInt64 a0), .long (0 : Int64), .long (5 : Int64)]) (st := []) (ev_X4_in (Int32.toInt64 a0) (0 : Int64) (5 : Int64) u) mw_X4_in (by decide +kernel) (by decide +kernel) (by decide) rfl (Nat.le_of_ble_eq_true rfl) (fun r6 => ?_)
  exact xm_zret (pc := 9) (by decide +kernel) rfl rfl
theorem ev_X4_isRow (a0 : Int32) (u : xN) : ∀ r, f_X4_isRow a0 = some r → xEm md_X4_isRow yX4_isRow [.int a0] (xU u) (some (.int r), (xU u)) := xm_met (res := (rsI (xU u))) (as := [.int a0]) (go_X4_isRow a0 u) (by decide) rfl (Nat.le_of_ble_eq_true rfl)
theorem mw_X4_makeRow : xMv yX4_makeRow cX4_makeRow 4 none 2 := xMv_of (p1 := 915) (p2 := 914) (p3 := 97) (p4 := 41) (by decide +kernel)
/-! NeitherBareModel.makeRow(II)V (39, None, None) -/
abbrev md_X4_makeRow : xMd := (cX4_makeRow, RX4, 4, none, 1)
def f_X4_makeRow_L9b (N : Nat) (rec9 : Int32 → Int32 → xN → Option xN) (v1 : Int32) (v3 : Int32) (u : xN) : Option xN := if (40 : Int32) ≤ v3 then some u else gdl [inb (((40 : Int32) * v1) + v3) 240] (rec9 v1 (v3 + (1 : Int32)) (mI u 46 (Int32.toNatClampNeg (((40 : Int32) * v1) + v3)) (0 : Int32)))
set_option maxRecDepth 20000 in
theorem go_X4_makeRow_L9b (N : Nat) (rec9 : Int32 → Int32 → xN → Option xN) (h9 : ∀ (v1 : Int32) (v3 : Int32) (u : xN), xGm md_X4_makeRow rsV (rec9 v1 v3 u) 9 [(0, .ref 39), (1, .int v1), (3, .int v3)] [] (xU u)) (v1 : Int32) (v3 : Int32) (u : xN) : xGm md_X4_makeRow rsV (f_X4_makeRow_L9b N rec9 v1 v3 u) 9 [(0, .ref 39), (1, .int v1), (3, .int v3)] [] (xU u) := by
  unfold f_X4_makeRow_L9b
  refine xm_blk0 (pc' := 12) (lv' := [(0, .ref 39), (1, .int v1), (3, .int v3)]) (st' := [.int (40 : Int32), .int v3]) (u' := (xU u)) [(.iload_n 3, (0, 0, 0), 0, 0), (.bipush 40, (0, 0, 0), 40, 0)] (by decide +kernel) rfl ?_
  refine xm_icmp_ge (pc := 12) (off := 21) (tgt := 33) (by decide +kernel) (by decide) ?_ ?_
  · exact xm_vret (pc := 33) (by decide +kernel) rfl rfl
  · refine xm_blk (bs := [inb (((40 : Int32) * v1) + v3) 240]) (pc' := 30) (lv' := [(0, .ref 39), (1, .int v1), (3, .int (v3 + (1 : Int32)))]) (st' := []) (u' := (xU (mI u 46 (Int32.toNatClampNeg (((40 : Int32) * v1) + v3)) (0 : Int32)))) [(.aload_n 0, (0, 0, 0), 0, 0), (.getfield 28, (4, 8, 828), 0, 0), (.bipush 40, (0, 0, 0), 40, 0), (.iload_n 1, (0, 0, 0), 0, 0), (.imul, (0, 0, 0), 0, 0), (.iload_n 3, (0, 0, 0), 0, 0), (.iadd, (0, 0, 0), 0, 0), (.iconst 0, (0, 0, 0), 0, 0), (.iastore, (0, 0, 0), 0, 0), (.iinc 3 1, (0, 0, 0), 1, 0)] (by decide +kernel) rfl ?_
    refine xm_goto (pc := 30) (off := -21) (tgt := 9) (by decide +kernel) (by decide) ?_
    exact h9 v1 (v3 + (1 : Int32)) (mI u 46 (Int32.toNatClampNeg (((40 : Int32) * v1) + v3)) (0 : Int32))
def f_X4_makeRow_L9 (N : Nat) : Nat → Int32 → Int32 → xN → Option xN
  | 0 => fun _ _ _ => none
  | n + 1 => fun v1 v3 u => f_X4_makeRow_L9b N (f_X4_makeRow_L9 N n) v1 v3 u
theorem go_X4_makeRow_L9 (N : Nat) : ∀ (n : Nat) (v1 : Int32) (v3 : Int32) (u : xN), xGm md_X4_makeRow rsV (f_X4_makeRow_L9 N n v1 v3 u) 9 [(0, .ref 39), (1, .int v1), (3, .int v3)] [] (xU u) := by
  intro n
  induction n with
  | zero => intro v1 v3 u; exact xm_none
  | succ n ih => intro v1 v3 u; exact go_X4_makeRow_L9b N _ ih v1 v3 u
def f_X4_makeRow (N : Nat) (a1 : Int32) (a2 : Int32) (u : xN) : Option xN := gdl [inb a1 6] (f_X4_makeRow_L9 N N a1 (0 : Int32) (mI u 45 (Int32.toNatClampNeg a1) a2))
set_option maxRecDepth 20000 in
theorem go_X4_makeRow (N : Nat) (a1 : Int32) (a2 : Int32) (u : xN) : xGm md_X4_makeRow rsV (f_X4_makeRow N a1 a2 u) 0 [(0, .ref 39), (1, .int a1), (2, .int a2)] [] (xU u) := by
  unfold f_X4_makeRow
  refine xm_blk (bs := [inb a1 6]) (pc' := 9) (lv' := [(0, .ref 39), (1, .int a1), (2, .int a2), (3, .int (0 : Int32))]) (st' := []) (u' := (xU (mI u 45 (Int32.toNatClampNeg a1) a2))) [(.aload_n 0, (0, 0, 0), 0, 0), (.getfield 25, (4, 7, 827), 0, 0), (.iload_n 1, (0, 0, 0), 0, 0), (.iload_n 2, (0, 0, 0), 0, 0), (.iastore, (0, 0, 0), 0, 0), (.iconst 0, (0, 0, 0), 0, 0), (.istore_n 3, (0, 0, 0), 0, 0)] (by decide +kernel) rfl ?_
  refine xm_wk [0, 1, 3] (lv' := [(0, .ref 39), (1, .int a1), (3, .int (0 : Int32))]) rfl ?_
  exact go_X4_makeRow_L9 N N a1 (0 : Int32) (mI u 45 (Int32.toNatClampNeg a1) a2)
theorem ev_X4_makeRow (N : Nat) (a1 : Int32) (a2 : Int32) (u : xN) : ∀ r, f_X4_makeRow N a1 a2 u = some r → xEm md_X4_makeRow yX4_makeRow [.ref 39, .int a1, .int a2] (xU u) (none, xU r) := xm_met (res := rsV) (as := [.ref 39, .int a1, .int a2]) (go_X4_makeRow N a1 a2 u) (by decide) rfl (Nat.le_of_ble_eq_true rfl)
theorem mw_X4_find : xMv yX4_find cX4_find 2 (some .int) 1 := xMv_of (p1 := 911) (p2 := 910) (p3 := 97) (p4 := 40) (by decide +kernel)
/-! NeitherBareModel.find(I)I (39, None) -/
abbrev md_X4_find : xMd := (cX4_find, RX4, 2, some .int, 1)
def f_X4_find (a1 : Int32) (u : xN) : Option (Int32 × xN) := gdl [inb a1 6, inb a1 6] (some ((-3 : Int32), mI (mI u 39 14 a1) 49 (Int32.toNatClampNeg a1) (((mI u 39 14 a1).1 49 (Int32.toNatClampNeg a1)) + (1 : Int32))))
set_option maxRecDepth 20000 in
theorem go_X4_find (a1 : Int32) (u : xN) : xGm md_X4_find rsM (f_X4_find a1 u) 0 [(0, .ref 39), (1, .int a1)] [] (xU u) := by
  unfold f_X4_find
  refine xm_blk (bs := [inb a1 6, inb a1 6]) (pc' := 17) (lv' := [(0, .ref 39), (1, .int a1)]) (st' := [.int (-3 : Int32)]) (u' := (xU (mI (mI u 39 14 a1) 49 (Int32.toNatClampNeg a1) (((mI u 39 14 a1).1 49 (Int32.toNatClampNeg a1)) + (1 : Int32))))) [(.aload_n 0, (0, 0, 0), 0, 0), (.iload_n 1, (0, 0, 0), 0, 0), (.putfield 64, (4, 14, 834), 0, 0), (.aload_n 0, (0, 0, 0), 0, 0), (.getfield 41, (4, 15, 835), 0, 0), (.iload_n 1, (0, 0, 0), 0, 0), (.dup2, (0, 0, 0), 0, 0), (.iaload, (0, 0, 0), 0, 0), (.iconst 1, (0, 0, 0), 1, 0), (.iadd, (0, 0, 0), 0, 0), (.iastore, (0, 0, 0), 0, 0), (.bipush (-3), (0, 0, 0), -3, 0)] (by decide +kernel) rfl ?_
  exact xm_iret (pc := 17) (by decide +kernel) rfl rfl
theorem ev_X4_find (a1 : Int32) (u : xN) : ∀ r, f_X4_find a1 u = some r → xEm md_X4_find yX4_find [.ref 39, .int a1] (xU u) (some (.int r.1), xU r.2) := xm_met (res := rsM) (as := [.ref 39, .int a1]) (go_X4_find a1 u) (by decide) rfl (Nat.le_of_ble_eq_true rfl)
theorem mw_X4_row : xMv yX4_row cX4_row 3 (some .int) 2 := xMv_of (p1 := 900) (p2 := 898) (p3 := 97) (p4 := 899) (by decide +kernel)
/-! NeitherBareModel.row(II)I (39, None, None) -/
abbrev md_X4_row : xMd := (cX4_row, RX4, 3, some .int, 3)
def f_X4_row_L13 (N : Nat) (u : xN) : Option (Int32 × xN) := some ((-1 : Int32), u)
set_option maxRecDepth 20000 in
theorem go_X4_row_L13 (N : Nat) (u : xN) : xGm md_X4_row rsM (f_X4_row_L13 N u) 13 [] [] (xU u) := by
  unfold f_X4_row_L13
  refine xm_blk0 (pc' := 14) (lv' := []) (st' := [.int (-1 : Int32)]) (u' := (xU u)) [(.iconst (-1), (0, 0, 0), -1, 0)] (by decide +kernel) rfl ?_
  exact xm_iret (pc := 14) (by decide +kernel) rfl rfl
def f_X4_row (N : Nat) (a1 : Int32) (a2 : Int32) (u : xN) : Option (Int32 × xN) := Option.bind (f_X4_isRow a1) (fun r1 => if r1 = (0 : Int32) then f_X4_row_L13 N u else if a2 ≤ (40 : Int32) then (if (0 : Int32) ≤ a2 then Option.bind (f_X4_makeRow N a1 a2 u) (fun r28 => some (a2, r28)) else Option.bind (f_X4_find (5 : Int32) u) (fun r21 => some (r21.1, r21.2))) else f_X4_row_L13 N u)
set_option maxRecDepth 20000 in
theorem go_X4_row (N : Nat) (a1 : Int32) (a2 : Int32) (u : xN) : xGm md_X4_row rsM (f_X4_row N a1 a2 u) 0 [(0, .ref 39), (1, .int a1), (2, .int a2)] [] (xU u) := by
  unfold f_X4_row
  refine xm_blk0 (pc' := 1) (lv' := [(0, .ref 39), (1, .int a1), (2, .int a2)]) (st' := [.int a1]) (u' := (xU u)) [(.iload_n 1, (0, 0, 0), 0, 0)] (by decide +kernel) rfl ?_
  refine xm_Si (pc := 1) (mz := md_X4_isRow) (idx := 78) (p1 := 901) (as := [.int a1]) (st := []) (ev_X4_isRow a1 u) mw_X4_isRow (by decide +kernel) (by decide +kernel) (by decide) rfl (Nat.le_of_ble_eq_true rfl) (fun r1 => ?_)
  refine xm_if_eq (pc := 4) (off := 9) (tgt := 13) (by decide +kernel) (by decide) ?_ ?_
  · refine xm_wk [] (lv' := []) rfl ?_
    exact go_X4_row_L13 N u
  · refine xm_blk0 (pc' := 10) (lv' := [(0, .ref 39), (1, .int a1), (2, .int a2)]) (st' := [.int (40 : Int32), .int a2]) (u' := (xU u)) [(.iload_n 2, (0, 0, 0), 0, 0), (.bipush 40, (0, 0, 0), 40, 0)] (by decide +kernel) rfl ?_
    refine xm_icmp_le (pc := 10) (off := 5) (tgt := 15) (by decide +kernel) (by decide) ?_ ?_
    · refine xm_blk0 (pc' := 16) (lv' := [(0, .ref 39), (1, .int a1), (2, .int a2)]) (st' := [.int a2]) (u' := (xU u)) [(.iload_n 2, (0, 0, 0), 0, 0)] (by decide +kernel) rfl ?_
      refine xm_if_ge (pc := 16) (off := 9) (tgt := 25) (by decide +kernel) (by decide) ?_ ?_
      · refine xm_blk0 (pc' := 28) (lv' := [(0, .ref 39), (1, .int a1), (2, .int a2)]) (st' := [.int a2, .int a1, .ref 39]) (u' := (xU u)) [(.aload_n 0, (0, 0, 0), 0, 0), (.iload_n 1, (0, 0, 0), 0, 0), (.iload_n 2, (0, 0, 0), 0, 0)] (by decide +kernel) rfl ?_
        refine xm_Vv (pc := 28) (mz := md_X4_makeRow) (idx := 86) (p1 := 912) (a := 39) (as := [.int a1, .int a2]) (st := []) (ev_X4_makeRow N a1 a2 u) mw_X4_makeRow (by decide +kernel) (by decide +kernel) (by decide) rfl rfl (by decide) rfl (Nat.le_of_ble_eq_true rfl) (fun r28 => ?_)
        refine xm_blk0 (pc' := 32) (lv' := [(0, .ref 39), (1, .int a1), (2, .int a2)]) (st' := [.int a2]) (u' := (xU r28)) [(.iload_n 2, (0, 0, 0), 0, 0)] (by decide +kernel) rfl ?_
        exact xm_iret (pc := 32) (by decide +kernel) rfl rfl
      · refine xm_blk0 (pc' := 21) (lv' := [(0, .ref 39), (1, .int a1), (2, .int a2)]) (st' := [.int (5 : Int32), .ref 39]) (u' := (xU u)) [(.aload_n 0, (0, 0, 0), 0, 0), (.iconst 5, (0, 0, 0), 5, 0)] (by decide +kernel) rfl ?_
        refine xm_Vm (pc := 21) (mz := md_X4_find) (idx := 82) (p1 := 908) (a := 39) (as := [.int (5 : Int32)]) (st := []) (ev_X4_find (5 : Int32) u) mw_X4_find (by decide +kernel) (by decide +kernel) (by decide) rfl rfl (by decide) rfl (Nat.le_of_ble_eq_true rfl) (fun r21 => ?_)
        exact xm_iret (pc := 24) (by decide +kernel) rfl rfl
    · refine xm_wk [] (lv' := []) rfl ?_
      exact go_X4_row_L13 N u
theorem ev_X4_row (N : Nat) (a1 : Int32) (a2 : Int32) (u : xN) : ∀ r, f_X4_row N a1 a2 u = some r → xEm md_X4_row yX4_row [.ref 39, .int a1, .int a2] (xU u) (some (.int r.1), xU r.2) := xm_met (res := rsM) (as := [.ref 39, .int a1, .int a2]) (go_X4_row N a1 a2 u) (by decide) rfl (Nat.le_of_ble_eq_true rfl)
theorem mw_X4_refused : xMv yX4_refused cX4_refused 3 (some .int) 2 := xMv_of (p1 := 923) (p2 := 922) (p3 := 97) (p4 := 42) (by decide +kernel)
/-! NeitherBareModel.refused(II)I (39, None, None) -/
abbrev md_X4_refused : xMd := (cX4_refused, RX4, 3, some .int, 3)
def f_X4_refused_L55 (t0 : Int32) (u : xN) : Option (Int32 × xN) := some (t0, u)
set_option maxRecDepth 20000 in
theorem go_X4_refused_L55 (t0 : Int32) (u : xN) : xGm md_X4_refused rsM (f_X4_refused_L55 t0 u) 55 [] [.int t0] (xU u) := by
  unfold f_X4_refused_L55
  exact xm_iret (pc := 55) (by decide +kernel) rfl rfl
def f_X4_refused (a1 : Int32) (a2 : Int32) (u : xN) : Option (Int32 × xN) := Option.bind (f_X4_isRow a1) (fun r1 => if r1 = (0 : Int32) then f_X4_refused_L55 (-1 : Int32) u else gdl [inb a1 6] (if (0 : Int32) ≤ (u.1 45 (Int32.toNatClampNeg a1)) then (gdl [inb a1 6] (Option.bind (f_X4_in (Int32.toInt64 a2) (0 : Int64) (Int32.toInt64 ((u.1 45 (Int32.toNatClampNeg a1)) - (1 : Int32)))) (fun r40 => if r40 = (0 : Int32) then Option.bind (f_X4_find (2 : Int32) u) (fun r52 => f_X4_refused_L55 r52.1 r52.2) else f_X4_refused_L55 (0 : Int32) u))) else Option.bind (f_X4_find (1 : Int32) u) (fun r22 => f_X4_refused_L55 r22.1 r22.2)))
set_option maxRecDepth 20000 in
theorem go_X4_refused (a1 : Int32) (a2 : Int32) (u : xN) : xGm md_X4_refused rsM (f_X4_refused a1 a2 u) 0 [(0, .ref 39), (1, .int a1), (2, .int a2)] [] (xU u) := by
  unfold f_X4_refused
  refine xm_blk0 (pc' := 1) (lv' := [(0, .ref 39), (1, .int a1), (2, .int a2)]) (st' := [.int a1]) (u' := (xU u)) [(.iload_n 1, (0, 0, 0), 0, 0)] (by decide +kernel) rfl ?_
  refine xm_Si (pc := 1) (mz := md_X4_isRow) (idx := 78) (p1 := 901) (as := [.int a1]) (st := []) (ev_X4_isRow a1 u) mw_X4_isRow (by decide +kernel) (by decide +kernel) (by decide) rfl (Nat.le_of_ble_eq_true rfl) (fun r1 => ?_)
  refine xm_if_ne (pc := 4) (off := 7) (tgt := 11) (by decide +kernel) (by decide) ?_ ?_
  · refine xm_blk (bs := [inb a1 6]) (pc' := 17) (lv' := [(0, .ref 39), (1, .int a1), (2, .int a2)]) (st' := [.int (u.1 45 (Int32.toNatClampNeg a1))]) (u' := (xU u)) [(.aload_n 0, (0, 0, 0), 0, 0), (.getfield 25, (4, 7, 827), 0, 0), (.iload_n 1, (0, 0, 0), 0, 0), (.iaload, (0, 0, 0), 0, 0)] (by decide +kernel) rfl ?_
    refine xm_if_ge (pc := 17) (off := 11) (tgt := 28) (by decide +kernel) (by decide) ?_ ?_
    · refine xm_blk (bs := [inb a1 6]) (pc' := 40) (lv' := [(0, .ref 39), (1, .int a1), (2, .int a2)]) (st' := [.long (Int32.toInt64 ((u.1 45 (Int32.toNatClampNeg a1)) - (1 : Int32))), .long (0 : Int64), .long (Int32.toInt64 a2)]) (u' := (xU u)) [(.iload_n 2, (0, 0, 0), 0, 0), (.i2l, (0, 0, 0), 0, 0), (.lconst 0, (0, 0, 0), 0, 0), (.aload_n 0, (0, 0, 0), 0, 0), (.getfield 25, (4, 7, 827), 0, 0), (.iload_n 1, (0, 0, 0), 0, 0), (.iaload, (0, 0, 0), 0, 0), (.iconst 1, (0, 0, 0), 1, 0), (.isub, (0, 0, 0), 0, 0), (.i2l, (0, 0, 0), 0, 0)] (by decide +kernel) rfl ?_
      refine xm_Si (pc := 40) (mz := md_X4_in) (idx := 72) (p1 := 905) (as := [.long (Int32.toInt64 a2), .long (0 : Int64), .long (Int32.toInt64 ((u.1 45 (Int32.toNatClampNeg a1)) - (1 : Int32)))]) (st := []) (ev_X4_in (Int32.toInt64 a2) (0 : Int64) (Int32.toInt64 ((u.1 45 (Int32.toNatClampNeg a1)) - (1 : Int32))) u) mw_X4_in (by decide +kernel) (by decide +kernel) (by decide) rfl (Nat.le_of_ble_eq_true rfl) (fun r40 => ?_)
      refine xm_if_eq (pc := 43) (off := 7) (tgt := 50) (by decide +kernel) (by decide) ?_ ?_
      · refine xm_blk0 (pc' := 52) (lv' := [(0, .ref 39), (1, .int a1), (2, .int a2)]) (st' := [.int (2 : Int32), .ref 39]) (u' := (xU u)) [(.aload_n 0, (0, 0, 0), 0, 0), (.iconst 2, (0, 0, 0), 2, 0)] (by decide +kernel) rfl ?_
        refine xm_Vm (pc := 52) (mz := md_X4_find) (idx := 82) (p1 := 908) (a := 39) (as := [.int (2 : Int32)]) (st := []) (ev_X4_find (2 : Int32) u) mw_X4_find (by decide +kernel) (by decide +kernel) (by decide) rfl rfl (by decide) rfl (Nat.le_of_ble_eq_true rfl) (fun r52 => ?_)
        refine xm_wk [] (lv' := []) rfl ?_
        exact go_X4_refused_L55 r52.1 r52.2
      · refine xm_blk0 (pc' := 47) (lv' := [(0, .ref 39), (1, .int a1), (2, .int a2)]) (st' := [.int (0 : Int32)]) (u' := (xU u)) [(.iconst 0, (0, 0, 0), 0, 0)] (by decide +kernel) rfl ?_
        refine xm_goto (pc := 47) (off := 8) (tgt := 55) (by decide +kernel) (by decide) ?_
        refine xm_wk [] (lv' := []) rfl ?_
        exact go_X4_refused_L55 (0 : Int32) u
    · refine xm_blk0 (pc' := 22) (lv' := [(0, .ref 39), (1, .int a1), (2, .int a2)]) (st' := [.int (1 : Int32), .ref 39]) (u' := (xU u)) [(.aload_n 0, (0, 0, 0), 0, 0), (.iconst 1, (0, 0, 0), 1, 0)] (by decide +kernel) rfl ?_
      refine xm_Vm (pc := 22) (mz := md_X4_find) (idx := 82) (p1 := 908) (a := 39) (as := [.int (1 : Int32)]) (st := []) (ev_X4_find (1 : Int32) u) mw_X4_find (by decide +kernel) (by decide +kernel) (by decide) rfl rfl (by decide) rfl (Nat.le_of_ble_eq_true rfl) (fun r22 => ?_)
      refine xm_goto (pc := 25) (off := 30) (tgt := 55) (by decide +kernel) (by decide) ?_
      refine xm_wk [] (lv' := []) rfl ?_
      exact go_X4_refused_L55 r22.1 r22.2
  · refine xm_blk0 (pc' := 8) (lv' := [(0, .ref 39), (1, .int a1), (2, .int a2)]) (st' := [.int (-1 : Int32)]) (u' := (xU u)) [(.iconst (-1), (0, 0, 0), -1, 0)] (by decide +kernel) rfl ?_
    refine xm_goto (pc := 8) (off := 47) (tgt := 55) (by decide +kernel) (by decide) ?_
    refine xm_wk [] (lv' := []) rfl ?_
    exact go_X4_refused_L55 (-1 : Int32) u
theorem ev_X4_refused (a1 : Int32) (a2 : Int32) (u : xN) : ∀ r, f_X4_refused a1 a2 u = some r → xEm md_X4_refused yX4_refused [.ref 39, .int a1, .int a2] (xU u) (some (.int r.1), xU r.2) := xm_met (res := rsM) (as := [.ref 39, .int a1, .int a2]) (go_X4_refused a1 a2 u) (by decide) rfl (Nat.le_of_ble_eq_true rfl)
theorem mw_X4_tell : xMv yX4_tell cX4_tell 2 (some .int) 1 := xMv_of (p1 := 927) (p2 := 926) (p3 := 97) (p4 := 43) (by decide +kernel)
/-! NeitherBareModel.tell(I)I (39, None) -/
abbrev md_X4_tell : xMd := (cX4_tell, RX4, 2, some .int, 1)
def f_X4_tell (a1 : Int32) (u : xN) : Option (Int32 × xN) := some ((1 : Int32), mI u 39 11 a1)
set_option maxRecDepth 20000 in
theorem go_X4_tell (a1 : Int32) (u : xN) : xGm md_X4_tell rsM (f_X4_tell a1 u) 0 [(0, .ref 39), (1, .int a1)] [] (xU u) := by
  unfold f_X4_tell
  refine xm_blk0 (pc' := 6) (lv' := [(0, .ref 39), (1, .int a1)]) (st' := [.int (1 : Int32)]) (u' := (xU (mI u 39 11 a1))) [(.aload_n 0, (0, 0, 0), 0, 0), (.iload_n 1, (0, 0, 0), 0, 0), (.putfield 67, (4, 11, 831), 0, 0), (.iconst 1, (0, 0, 0), 1, 0)] (by decide +kernel) rfl ?_
  exact xm_iret (pc := 6) (by decide +kernel) rfl rfl
theorem ev_X4_tell (a1 : Int32) (u : xN) : ∀ r, f_X4_tell a1 u = some r → xEm md_X4_tell yX4_tell [.ref 39, .int a1] (xU u) (some (.int r.1), xU r.2) := xm_met (res := rsM) (as := [.ref 39, .int a1]) (go_X4_tell a1 u) (by decide) rfl (Nat.le_of_ble_eq_true rfl)
theorem mw_X4_lay : xMv yX4_lay cX4_lay 6 (some .int) 3 := xMv_of (p1 := 919) (p2 := 917) (p3 := 97) (p4 := 918) (by decide +kernel)
/-! NeitherBareModel.lay(III)I (39, None, None, None) -/
abbrev md_X4_lay : xMd := (cX4_lay, RX4, 6, some .int, 4)
def f_X4_lay (a1 : Int32) (a2 : Int32) (a3 : Int32) (u : xN) : Option (Int32 × xN) := Option.bind (f_X4_refused a1 a2 u) (fun r3 => if r3.1 = (0 : Int32) then (gdl [inb (((40 : Int32) * a1) + a2) 240, inb (((40 : Int32) * a1) + a2) 240] (Option.bind (f_X4_tell (r3.2.1 46 (Int32.toNatClampNeg (((40 : Int32) * a1) + a2))) (mI r3.2 46 (Int32.toNatClampNeg (((40 : Int32) * a1) + a2)) a3)) (fun r44 => some (r44.1, r44.2)))) else some (r3.1, r3.2))
set_option maxRecDepth 20000 in
theorem go_X4_lay (a1 : Int32) (a2 : Int32) (a3 : Int32) (u : xN) : xGm md_X4_lay rsM (f_X4_lay a1 a2 a3 u) 0 [(0, .ref 39), (1, .int a1), (2, .int a2), (3, .int a3)] [] (xU u) := by
  unfold f_X4_lay
  refine xm_blk0 (pc' := 3) (lv' := [(0, .ref 39), (1, .int a1), (2, .int a2), (3, .int a3)]) (st' := [.int a2, .int a1, .ref 39]) (u' := (xU u)) [(.aload_n 0, (0, 0, 0), 0, 0), (.iload_n 1, (0, 0, 0), 0, 0), (.iload_n 2, (0, 0, 0), 0, 0)] (by decide +kernel) rfl ?_
  refine xm_Vm (pc := 3) (mz := md_X4_refused) (idx := 90) (p1 := 920) (a := 39) (as := [.int a1, .int a2]) (st := []) (ev_X4_refused a1 a2 u) mw_X4_refused (by decide +kernel) (by decide +kernel) (by decide) rfl rfl (by decide) rfl (Nat.le_of_ble_eq_true rfl) (fun r3 => ?_)
  refine xm_blk0 (pc' := 10) (lv' := [(0, .ref 39), (1, .int a1), (2, .int a2), (3, .int a3), (4, .int r3.1)]) (st' := [.int r3.1]) (u' := (xU r3.2)) [(.istore 4, (0, 0, 0), 0, 0), (.iload 4, (0, 0, 0), 0, 0)] (by decide +kernel) rfl ?_
  refine xm_if_eq (pc := 10) (off := 6) (tgt := 16) (by decide +kernel) (by decide) ?_ ?_
  · refine xm_blk (bs := [inb (((40 : Int32) * a1) + a2) 240, inb (((40 : Int32) * a1) + a2) 240]) (pc' := 44) (lv' := [(0, .ref 39), (1, .int a1), (2, .int a2), (3, .int a3), (4, .int r3.1), (5, .int (r3.2.1 46 (Int32.toNatClampNeg (((40 : Int32) * a1) + a2))))]) (st' := [.int (r3.2.1 46 (Int32.toNatClampNeg (((40 : Int32) * a1) + a2))), .ref 39]) (u' := (xU (mI r3.2 46 (Int32.toNatClampNeg (((40 : Int32) * a1) + a2)) a3))) [(.aload_n 0, (0, 0, 0), 0, 0), (.getfield 28, (4, 8, 828), 0, 0), (.bipush 40, (0, 0, 0), 40, 0), (.iload_n 1, (0, 0, 0), 0, 0), (.imul, (0, 0, 0), 0, 0), (.iload_n 2, (0, 0, 0), 0, 0), (.iadd, (0, 0, 0), 0, 0), (.iaload, (0, 0, 0), 0, 0), (.istore 5, (0, 0, 0), 0, 0), (.aload_n 0, (0, 0, 0), 0, 0), (.getfield 28, (4, 8, 828), 0, 0), (.bipush 40, (0, 0, 0), 40, 0), (.iload_n 1, (0, 0, 0), 0, 0), (.imul, (0, 0, 0), 0, 0), (.iload_n 2, (0, 0, 0), 0, 0), (.iadd, (0, 0, 0), 0, 0), (.iload_n 3, (0, 0, 0), 0, 0), (.iastore, (0, 0, 0), 0, 0), (.aload_n 0, (0, 0, 0), 0, 0), (.iload 5, (0, 0, 0), 0, 0)] (by decide +kernel) rfl ?_
    refine xm_Vm (pc := 44) (mz := md_X4_tell) (idx := 94) (p1 := 924) (a := 39) (as := [.int (r3.2.1 46 (Int32.toNatClampNeg (((40 : Int32) * a1) + a2)))]) (st := []) (ev_X4_tell (r3.2.1 46 (Int32.toNatClampNeg (((40 : Int32) * a1) + a2))) (mI r3.2 46 (Int32.toNatClampNeg (((40 : Int32) * a1) + a2)) a3)) mw_X4_tell (by decide +kernel) (by decide +kernel) (by decide) rfl rfl (by decide) rfl (Nat.le_of_ble_eq_true rfl) (fun r44 => ?_)
    exact xm_iret (pc := 47) (by decide +kernel) rfl rfl
  · refine xm_blk0 (pc' := 15) (lv' := [(0, .ref 39), (1, .int a1), (2, .int a2), (3, .int a3), (4, .int r3.1)]) (st' := [.int r3.1]) (u' := (xU r3.2)) [(.iload 4, (0, 0, 0), 0, 0)] (by decide +kernel) rfl ?_
    exact xm_iret (pc := 15) (by decide +kernel) rfl rfl
theorem ev_X4_lay (a1 : Int32) (a2 : Int32) (a3 : Int32) (u : xN) : ∀ r, f_X4_lay a1 a2 a3 u = some r → xEm md_X4_lay yX4_lay [.ref 39, .int a1, .int a2, .int a3] (xU u) (some (.int r.1), xU r.2) := xm_met (res := rsM) (as := [.ref 39, .int a1, .int a2, .int a3]) (go_X4_lay a1 a2 a3 u) (by decide) rfl (Nat.le_of_ble_eq_true rfl)
theorem mw_X4_has : xMs yX4_has cX4_has 2 (some .boolean) 2 := xMs_of (p1 := 1034) (p2 := 1033) (p3 := 97) (by decide +kernel)
/-! NeitherBareModel.has(II)Z  -/
abbrev md_X4_has : xMd := (cX4_has, RX4, 2, some .boolean, 1)
def f_X4_has_L14 (t0 : Int32) : Option Int32 := gdl [isb t0] (some t0)
set_option maxRecDepth 20000 in
theorem go_X4_has_L14 (u : xN) (t0 : Int32) : xGm md_X4_has (rsI (xU u)) (f_X4_has_L14 t0) 14 [] [.int t0] (xU u) := by
  unfold f_X4_has_L14
  exact xm_zret (pc := 14) (by decide +kernel) rfl rfl
def f_X4_has (a0 : Int32) (a1 : Int32) : Option Int32 := if ((a0 >>> (a1 &&& 31)) &&& (1 : Int32)) = (1 : Int32) then f_X4_has_L14 (1 : Int32) else f_X4_has_L14 (0 : Int32)
set_option maxRecDepth 20000 in
theorem go_X4_has (a0 : Int32) (a1 : Int32) (u : xN) : xGm md_X4_has (rsI (xU u)) (f_X4_has a0 a1) 0 [(0, .int a0), (1, .int a1)] [] (xU u) := by
  unfold f_X4_has
  refine xm_blk0 (pc' := 6) (lv' := [(0, .int a0), (1, .int a1)]) (st' := [.int (1 : Int32), .int ((a0 >>> (a1 &&& 31)) &&& (1 : Int32))]) (u' := (xU u)) [(.iload_n 0, (0, 0, 0), 0, 0), (.iload_n 1, (0, 0, 0), 0, 0), (.ishr, (0, 0, 0), 0, 0), (.iconst 1, (0, 0, 0), 1, 0), (.iand, (0, 0, 0), 0, 0), (.iconst 1, (0, 0, 0), 1, 0)] (by decide +kernel) rfl ?_
  refine xm_icmp_ne (pc := 6) (off := 7) (tgt := 13) (by decide +kernel) (by decide) ?_ ?_
  · refine xm_blk0 (pc' := 14) (lv' := [(0, .int a0), (1, .int a1)]) (st' := [.int (0 : Int32)]) (u' := (xU u)) [(.iconst 0, (0, 0, 0), 0, 0)] (by decide +kernel) rfl ?_
    refine xm_wk [] (lv' := []) rfl ?_
    exact go_X4_has_L14 u (0 : Int32)
  · refine xm_blk0 (pc' := 10) (lv' := [(0, .int a0), (1, .int a1)]) (st' := [.int (1 : Int32)]) (u' := (xU u)) [(.iconst 1, (0, 0, 0), 1, 0)] (by decide +kernel) rfl ?_
    refine xm_goto (pc := 10) (off := 4) (tgt := 14) (by decide +kernel) (by decide) ?_
    refine xm_wk [] (lv' := []) rfl ?_
    exact go_X4_has_L14 u (1 : Int32)
theorem ev_X4_has (a0 : Int32) (a1 : Int32) (u : xN) : ∀ r, f_X4_has a0 a1 = some r → xEm md_X4_has yX4_has [.int a0, .int a1] (xU u) (some (.int r), (xU u)) := xm_met (res := (rsI (xU u))) (as := [.int a0, .int a1]) (go_X4_has a0 a1 u) (by decide) rfl (Nat.le_of_ble_eq_true rfl)
theorem mw_X4_valueOf : xMv yX4_valueOf cX4_valueOf 5 (some .int) 2 := xMv_of (p1 := 1031) (p2 := 1030) (p3 := 97) (p4 := 56) (by decide +kernel)
/-! NeitherBareModel.valueOf(II)I (39, None, None) -/
abbrev md_X4_valueOf : xMd := (cX4_valueOf, RX4, 5, some .int, 2)
def f_X4_valueOf_L39 (N : Nat) (u : xN) (rec5 : Int32 → Int32 → Int32 → Int32 → Option Int32) (v1 : Int32) (v2 : Int32) (v4 : Int32) (t0 : Int32) (t1 : Int32) : Option Int32 := rec5 v1 v2 (t1 + t0) (v4 + (1 : Int32))
set_option maxRecDepth 20000 in
theorem go_X4_valueOf_L39 (N : Nat) (u : xN) (rec5 : Int32 → Int32 → Int32 → Int32 → Option Int32) (h5 : ∀ (v1 : Int32) (v2 : Int32) (v3 : Int32) (v4 : Int32), xGm md_X4_valueOf (rsI (xU u)) (rec5 v1 v2 v3 v4) 5 [(0, .ref 39), (1, .int v1), (2, .int v2), (3, .int v3), (4, .int v4)] [] (xU u)) (v1 : Int32) (v2 : Int32) (v4 : Int32) (t0 : Int32) (t1 : Int32) : xGm md_X4_valueOf (rsI (xU u)) (f_X4_valueOf_L39 N u rec5 v1 v2 v4 t0 t1) 39 [(0, .ref 39), (1, .int v1), (2, .int v2), (4, .int v4)] [.int t0, .int t1] (xU u) := by
  unfold f_X4_valueOf_L39
  refine xm_blk0 (pc' := 44) (lv' := [(0, .ref 39), (1, .int v1), (2, .int v2), (3, .int (t1 + t0)), (4, .int (v4 + (1 : Int32)))]) (st' := []) (u' := (xU u)) [(.iadd, (0, 0, 0), 0, 0), (.istore_n 3, (0, 0, 0), 0, 0), (.iinc 4 1, (0, 0, 0), 1, 0)] (by decide +kernel) rfl ?_
  refine xm_goto (pc := 44) (off := -39) (tgt := 5) (by decide +kernel) (by decide) ?_
  exact h5 v1 v2 (t1 + t0) (v4 + (1 : Int32))
def f_X4_valueOf_L57 (N : Nat) (u : xN) (t0 : Int32) : Option Int32 := some t0
set_option maxRecDepth 20000 in
theorem go_X4_valueOf_L57 (N : Nat) (u : xN) (t0 : Int32) : xGm md_X4_valueOf (rsI (xU u)) (f_X4_valueOf_L57 N u t0) 57 [] [.int t0] (xU u) := by
  unfold f_X4_valueOf_L57
  exact xm_iret (pc := 57) (by decide +kernel) rfl rfl
def f_X4_valueOf_L5b (N : Nat) (u : xN) (rec5 : Int32 → Int32 → Int32 → Int32 → Option Int32) (v1 : Int32) (v2 : Int32) (v3 : Int32) (v4 : Int32) : Option Int32 := if (u.1 39 1) ≤ v4 then (if v3 ≤ (5 : Int32) then f_X4_valueOf_L57 N u v3 else f_X4_valueOf_L57 N u (5 : Int32)) else Option.bind (f_X4_has v1 v4) (fun r18 => if r18 = (0 : Int32) then f_X4_valueOf_L39 N u rec5 v1 v2 v4 (0 : Int32) v3 else gdl [inb (((5 : Int32) * v4) + v2) 30] (f_X4_valueOf_L39 N u rec5 v1 v2 v4 (u.1 41 (Int32.toNatClampNeg (((5 : Int32) * v4) + v2))) v3))
set_option maxRecDepth 20000 in
theorem go_X4_valueOf_L5b (N : Nat) (u : xN) (rec5 : Int32 → Int32 → Int32 → Int32 → Option Int32) (h5 : ∀ (v1 : Int32) (v2 : Int32) (v3 : Int32) (v4 : Int32), xGm md_X4_valueOf (rsI (xU u)) (rec5 v1 v2 v3 v4) 5 [(0, .ref 39), (1, .int v1), (2, .int v2), (3, .int v3), (4, .int v4)] [] (xU u)) (v1 : Int32) (v2 : Int32) (v3 : Int32) (v4 : Int32) : xGm md_X4_valueOf (rsI (xU u)) (f_X4_valueOf_L5b N u rec5 v1 v2 v3 v4) 5 [(0, .ref 39), (1, .int v1), (2, .int v2), (3, .int v3), (4, .int v4)] [] (xU u) := by
  unfold f_X4_valueOf_L5b
  refine xm_blk0 (pc' := 11) (lv' := [(0, .ref 39), (1, .int v1), (2, .int v2), (3, .int v3), (4, .int v4)]) (st' := [.int (u.1 39 1), .int v4]) (u' := (xU u)) [(.iload 4, (0, 0, 0), 0, 0), (.aload_n 0, (0, 0, 0), 0, 0), (.getfield 147, (4, 1, 821), 0, 0)] (by decide +kernel) rfl ?_
  refine xm_icmp_ge (pc := 11) (off := 36) (tgt := 47) (by decide +kernel) (by decide) ?_ ?_
  · refine xm_blk0 (pc' := 49) (lv' := [(0, .ref 39), (1, .int v1), (2, .int v2), (3, .int v3), (4, .int v4)]) (st' := [.int (5 : Int32), .int v3]) (u' := (xU u)) [(.iload_n 3, (0, 0, 0), 0, 0), (.iconst 5, (0, 0, 0), 5, 0)] (by decide +kernel) rfl ?_
    refine xm_icmp_le (pc := 49) (off := 7) (tgt := 56) (by decide +kernel) (by decide) ?_ ?_
    · refine xm_blk0 (pc' := 57) (lv' := [(0, .ref 39), (1, .int v1), (2, .int v2), (3, .int v3), (4, .int v4)]) (st' := [.int v3]) (u' := (xU u)) [(.iload_n 3, (0, 0, 0), 0, 0)] (by decide +kernel) rfl ?_
      refine xm_wk [] (lv' := []) rfl ?_
      exact go_X4_valueOf_L57 N u v3
    · refine xm_blk0 (pc' := 53) (lv' := [(0, .ref 39), (1, .int v1), (2, .int v2), (3, .int v3), (4, .int v4)]) (st' := [.int (5 : Int32)]) (u' := (xU u)) [(.iconst 5, (0, 0, 0), 5, 0)] (by decide +kernel) rfl ?_
      refine xm_goto (pc := 53) (off := 4) (tgt := 57) (by decide +kernel) (by decide) ?_
      refine xm_wk [] (lv' := []) rfl ?_
      exact go_X4_valueOf_L57 N u (5 : Int32)
  · refine xm_blk0 (pc' := 18) (lv' := [(0, .ref 39), (1, .int v1), (2, .int v2), (3, .int v3), (4, .int v4)]) (st' := [.int v4, .int v1, .int v3]) (u' := (xU u)) [(.iload_n 3, (0, 0, 0), 0, 0), (.iload_n 1, (0, 0, 0), 0, 0), (.iload 4, (0, 0, 0), 0, 0)] (by decide +kernel) rfl ?_
    refine xm_Si (pc := 18) (mz := md_X4_has) (idx := 153) (p1 := 1032) (as := [.int v1, .int v4]) (st := [.int v3]) (ev_X4_has v1 v4 u) mw_X4_has (by decide +kernel) (by decide +kernel) (by decide) rfl (Nat.le_of_ble_eq_true rfl) (fun r18 => ?_)
    refine xm_if_eq (pc := 21) (off := 17) (tgt := 38) (by decide +kernel) (by decide) ?_ ?_
    · refine xm_blk0 (pc' := 39) (lv' := [(0, .ref 39), (1, .int v1), (2, .int v2), (3, .int v3), (4, .int v4)]) (st' := [.int (0 : Int32), .int v3]) (u' := (xU u)) [(.iconst 0, (0, 0, 0), 0, 0)] (by decide +kernel) rfl ?_
      refine xm_wk [0, 1, 2, 4] (lv' := [(0, .ref 39), (1, .int v1), (2, .int v2), (4, .int v4)]) rfl ?_
      exact go_X4_valueOf_L39 N u rec5 h5 v1 v2 v4 (0 : Int32) v3
    · refine xm_blk (bs := [inb (((5 : Int32) * v4) + v2) 30]) (pc' := 35) (lv' := [(0, .ref 39), (1, .int v1), (2, .int v2), (3, .int v3), (4, .int v4)]) (st' := [.int (u.1 41 (Int32.toNatClampNeg (((5 : Int32) * v4) + v2))), .int v3]) (u' := (xU u)) [(.aload_n 0, (0, 0, 0), 0, 0), (.getfield 13, (4, 2, 822), 0, 0), (.iconst 5, (0, 0, 0), 5, 0), (.iload 4, (0, 0, 0), 0, 0), (.imul, (0, 0, 0), 0, 0), (.iload_n 2, (0, 0, 0), 0, 0), (.iadd, (0, 0, 0), 0, 0), (.iaload, (0, 0, 0), 0, 0)] (by decide +kernel) rfl ?_
      refine xm_goto (pc := 35) (off := 4) (tgt := 39) (by decide +kernel) (by decide) ?_
      refine xm_wk [0, 1, 2, 4] (lv' := [(0, .ref 39), (1, .int v1), (2, .int v2), (4, .int v4)]) rfl ?_
      exact go_X4_valueOf_L39 N u rec5 h5 v1 v2 v4 (u.1 41 (Int32.toNatClampNeg (((5 : Int32) * v4) + v2))) v3
def f_X4_valueOf_L5 (N : Nat) (u : xN) : Nat → Int32 → Int32 → Int32 → Int32 → Option Int32
  | 0 => fun _ _ _ _ => none
  | n + 1 => fun v1 v2 v3 v4 => f_X4_valueOf_L5b N u (f_X4_valueOf_L5 N u n) v1 v2 v3 v4
theorem go_X4_valueOf_L5 (N : Nat) (u : xN) : ∀ (n : Nat) (v1 : Int32) (v2 : Int32) (v3 : Int32) (v4 : Int32), xGm md_X4_valueOf (rsI (xU u)) (f_X4_valueOf_L5 N u n v1 v2 v3 v4) 5 [(0, .ref 39), (1, .int v1), (2, .int v2), (3, .int v3), (4, .int v4)] [] (xU u) := by
  intro n
  induction n with
  | zero => intro v1 v2 v3 v4; exact xm_none
  | succ n ih => intro v1 v2 v3 v4; exact go_X4_valueOf_L5b N u _ ih v1 v2 v3 v4
def f_X4_valueOf (N : Nat) (a1 : Int32) (a2 : Int32) (u : xN) : Option Int32 := f_X4_valueOf_L5 N u N a1 a2 (0 : Int32) (0 : Int32)
set_option maxRecDepth 20000 in
theorem go_X4_valueOf (N : Nat) (a1 : Int32) (a2 : Int32) (u : xN) : xGm md_X4_valueOf (rsI (xU u)) (f_X4_valueOf N a1 a2 u) 0 [(0, .ref 39), (1, .int a1), (2, .int a2)] [] (xU u) := by
  unfold f_X4_valueOf
  refine xm_blk0 (pc' := 5) (lv' := [(0, .ref 39), (1, .int a1), (2, .int a2), (3, .int (0 : Int32)), (4, .int (0 : Int32))]) (st' := []) (u' := (xU u)) [(.iconst 0, (0, 0, 0), 0, 0), (.istore_n 3, (0, 0, 0), 0, 0), (.iconst 0, (0, 0, 0), 0, 0), (.istore 4, (0, 0, 0), 0, 0)] (by decide +kernel) rfl ?_
  exact go_X4_valueOf_L5 N u N a1 a2 (0 : Int32) (0 : Int32)
theorem ev_X4_valueOf (N : Nat) (a1 : Int32) (a2 : Int32) (u : xN) : ∀ r, f_X4_valueOf N a1 a2 u = some r → xEm md_X4_valueOf yX4_valueOf [.ref 39, .int a1, .int a2] (xU u) (some (.int r), (xU u)) := xm_met (res := (rsI (xU u))) (as := [.ref 39, .int a1, .int a2]) (go_X4_valueOf N a1 a2 u) (by decide) rfl (Nat.le_of_ble_eq_true rfl)
theorem mw_X4_upperOf : xMv yX4_upperOf cX4_upperOf 2 (some .int) 1 := xMv_of (p1 := 1046) (p2 := 1045) (p3 := 97) (p4 := 59) (by decide +kernel)
/-! NeitherBareModel.upperOf(I)I (39, None) -/
abbrev md_X4_upperOf : xMd := (cX4_upperOf, RX4, 2, some .int, 1)
def f_X4_upperOf (a1 : Int32) (u : xN) : Option Int32 := gdl [inb (((2 : Int32) + ((2 : Int32) * a1)) + (1 : Int32)) 1480] (some (u.1 40 (Int32.toNatClampNeg (((2 : Int32) + ((2 : Int32) * a1)) + (1 : Int32)))))
set_option maxRecDepth 20000 in
theorem go_X4_upperOf (a1 : Int32) (u : xN) : xGm md_X4_upperOf (rsI (xU u)) (f_X4_upperOf a1 u) 0 [(0, .ref 39), (1, .int a1)] [] (xU u) := by
  unfold f_X4_upperOf
  refine xm_blk (bs := [inb (((2 : Int32) + ((2 : Int32) * a1)) + (1 : Int32)) 1480]) (pc' := 12) (lv' := [(0, .ref 39), (1, .int a1)]) (st' := [.int (u.1 40 (Int32.toNatClampNeg (((2 : Int32) + ((2 : Int32) * a1)) + (1 : Int32))))]) (u' := (xU u)) [(.aload_n 0, (0, 0, 0), 0, 0), (.getfield 7, (4, 0, 820), 0, 0), (.iconst 2, (0, 0, 0), 2, 0), (.iconst 2, (0, 0, 0), 2, 0), (.iload_n 1, (0, 0, 0), 0, 0), (.imul, (0, 0, 0), 0, 0), (.iadd, (0, 0, 0), 0, 0), (.iconst 1, (0, 0, 0), 1, 0), (.iadd, (0, 0, 0), 0, 0), (.iaload, (0, 0, 0), 0, 0)] (by decide +kernel) rfl ?_
  exact xm_iret (pc := 12) (by decide +kernel) rfl rfl
theorem ev_X4_upperOf (a1 : Int32) (u : xN) : ∀ r, f_X4_upperOf a1 u = some r → xEm md_X4_upperOf yX4_upperOf [.ref 39, .int a1] (xU u) (some (.int r), (xU u)) := xm_met (res := (rsI (xU u))) (as := [.ref 39, .int a1]) (go_X4_upperOf a1 u) (by decide) rfl (Nat.le_of_ble_eq_true rfl)
theorem mw_X4_isMuch : xMv yX4_isMuch cX4_isMuch 3 (some .boolean) 2 := xMv_of (p1 := 1050) (p2 := 1049) (p3 := 97) (p4 := 60) (by decide +kernel)
/-! NeitherBareModel.isMuch(II)Z (39, None, None) -/
abbrev md_X4_isMuch : xMd := (cX4_isMuch, RX4, 3, some .boolean, 3)
def f_X4_isMuch_L19 (N : Nat) (u : xN) (t0 : Int32) : Option Int32 := gdl [isb t0] (some t0)
set_option maxRecDepth 20000 in
theorem go_X4_isMuch_L19 (N : Nat) (u : xN) (t0 : Int32) : xGm md_X4_isMuch (rsI (xU u)) (f_X4_isMuch_L19 N u t0) 19 [] [.int t0] (xU u) := by
  unfold f_X4_isMuch_L19
  exact xm_zret (pc := 19) (by decide +kernel) rfl rfl
def f_X4_isMuch (N : Nat) (a1 : Int32) (a2 : Int32) (u : xN) : Option Int32 := Option.bind (f_X4_valueOf N a1 a2 u) (fun r3 => Option.bind (f_X4_upperOf a2 u) (fun r8 => if r3 < r8 then f_X4_isMuch_L19 N u (0 : Int32) else f_X4_isMuch_L19 N u (1 : Int32)))
set_option maxRecDepth 20000 in
theorem go_X4_isMuch (N : Nat) (a1 : Int32) (a2 : Int32) (u : xN) : xGm md_X4_isMuch (rsI (xU u)) (f_X4_isMuch N a1 a2 u) 0 [(0, .ref 39), (1, .int a1), (2, .int a2)] [] (xU u) := by
  unfold f_X4_isMuch
  refine xm_blk0 (pc' := 3) (lv' := [(0, .ref 39), (1, .int a1), (2, .int a2)]) (st' := [.int a2, .int a1, .ref 39]) (u' := (xU u)) [(.aload_n 0, (0, 0, 0), 0, 0), (.iload_n 1, (0, 0, 0), 0, 0), (.iload_n 2, (0, 0, 0), 0, 0)] (by decide +kernel) rfl ?_
  refine xm_Vi (pc := 3) (mz := md_X4_valueOf) (idx := 157) (p1 := 1028) (a := 39) (as := [.int a1, .int a2]) (st := []) (ev_X4_valueOf N a1 a2 u) mw_X4_valueOf (by decide +kernel) (by decide +kernel) (by decide) rfl rfl (by decide) rfl (Nat.le_of_ble_eq_true rfl) (fun r3 => ?_)
  refine xm_blk0 (pc' := 8) (lv' := [(0, .ref 39), (1, .int a1), (2, .int a2)]) (st' := [.int a2, .ref 39, .int r3]) (u' := (xU u)) [(.aload_n 0, (0, 0, 0), 0, 0), (.iload_n 2, (0, 0, 0), 0, 0)] (by decide +kernel) rfl ?_
  refine xm_Vi (pc := 8) (mz := md_X4_upperOf) (idx := 160) (p1 := 1043) (a := 39) (as := [.int a2]) (st := [.int r3]) (ev_X4_upperOf a2 u) mw_X4_upperOf (by decide +kernel) (by decide +kernel) (by decide) rfl rfl (by decide) rfl (Nat.le_of_ble_eq_true rfl) (fun r8 => ?_)
  refine xm_icmp_lt (pc := 11) (off := 7) (tgt := 18) (by decide +kernel) (by decide) ?_ ?_
  · refine xm_blk0 (pc' := 19) (lv' := [(0, .ref 39), (1, .int a1), (2, .int a2)]) (st' := [.int (0 : Int32)]) (u' := (xU u)) [(.iconst 0, (0, 0, 0), 0, 0)] (by decide +kernel) rfl ?_
    refine xm_wk [] (lv' := []) rfl ?_
    exact go_X4_isMuch_L19 N u (0 : Int32)
  · refine xm_blk0 (pc' := 15) (lv' := [(0, .ref 39), (1, .int a1), (2, .int a2)]) (st' := [.int (1 : Int32)]) (u' := (xU u)) [(.iconst 1, (0, 0, 0), 1, 0)] (by decide +kernel) rfl ?_
    refine xm_goto (pc := 15) (off := 4) (tgt := 19) (by decide +kernel) (by decide) ?_
    refine xm_wk [] (lv' := []) rfl ?_
    exact go_X4_isMuch_L19 N u (1 : Int32)
theorem ev_X4_isMuch (N : Nat) (a1 : Int32) (a2 : Int32) (u : xN) : ∀ r, f_X4_isMuch N a1 a2 u = some r → xEm md_X4_isMuch yX4_isMuch [.ref 39, .int a1, .int a2] (xU u) (some (.int r), (xU u)) := xm_met (res := (rsI (xU u))) (as := [.ref 39, .int a1, .int a2]) (go_X4_isMuch N a1 a2 u) (by decide) rfl (Nat.le_of_ble_eq_true rfl)
theorem mw_X4_lowerOf : xMv yX4_lowerOf cX4_lowerOf 2 (some .int) 1 := xMv_of (p1 := 1042) (p2 := 1041) (p3 := 97) (p4 := 58) (by decide +kernel)
/-! NeitherBareModel.lowerOf(I)I (39, None) -/
abbrev md_X4_lowerOf : xMd := (cX4_lowerOf, RX4, 2, some .int, 1)
def f_X4_lowerOf (a1 : Int32) (u : xN) : Option Int32 := gdl [inb ((2 : Int32) + ((2 : Int32) * a1)) 1480] (some (u.1 40 (Int32.toNatClampNeg ((2 : Int32) + ((2 : Int32) * a1)))))
set_option maxRecDepth 20000 in
theorem go_X4_lowerOf (a1 : Int32) (u : xN) : xGm md_X4_lowerOf (rsI (xU u)) (f_X4_lowerOf a1 u) 0 [(0, .ref 39), (1, .int a1)] [] (xU u) := by
  unfold f_X4_lowerOf
  refine xm_blk (bs := [inb ((2 : Int32) + ((2 : Int32) * a1)) 1480]) (pc' := 10) (lv' := [(0, .ref 39), (1, .int a1)]) (st' := [.int (u.1 40 (Int32.toNatClampNeg ((2 : Int32) + ((2 : Int32) * a1))))]) (u' := (xU u)) [(.aload_n 0, (0, 0, 0), 0, 0), (.getfield 7, (4, 0, 820), 0, 0), (.iconst 2, (0, 0, 0), 2, 0), (.iconst 2, (0, 0, 0), 2, 0), (.iload_n 1, (0, 0, 0), 0, 0), (.imul, (0, 0, 0), 0, 0), (.iadd, (0, 0, 0), 0, 0), (.iaload, (0, 0, 0), 0, 0)] (by decide +kernel) rfl ?_
  exact xm_iret (pc := 10) (by decide +kernel) rfl rfl
theorem ev_X4_lowerOf (a1 : Int32) (u : xN) : ∀ r, f_X4_lowerOf a1 u = some r → xEm md_X4_lowerOf yX4_lowerOf [.ref 39, .int a1] (xU u) (some (.int r), (xU u)) := xm_met (res := (rsI (xU u))) (as := [.ref 39, .int a1]) (go_X4_lowerOf a1 u) (by decide) rfl (Nat.le_of_ble_eq_true rfl)
theorem mw_X4_isBetween : xMv yX4_isBetween cX4_isBetween 3 (some .boolean) 2 := xMv_of (p1 := 1038) (p2 := 1037) (p3 := 97) (p4 := 57) (by decide +kernel)
/-! NeitherBareModel.isBetween(II)Z (39, None, None) -/
abbrev md_X4_isBetween : xMd := (cX4_isBetween, RX4, 3, some .boolean, 2)
def f_X4_isBetween_L23 (u : xN) (t0 : Int32) : Option Int32 := gdl [isb t0] (some t0)
set_option maxRecDepth 20000 in
theorem go_X4_isBetween_L23 (u : xN) (t0 : Int32) : xGm md_X4_isBetween (rsI (xU u)) (f_X4_isBetween_L23 u t0) 23 [] [.int t0] (xU u) := by
  unfold f_X4_isBetween_L23
  exact xm_zret (pc := 23) (by decide +kernel) rfl rfl
def f_X4_isBetween_L22 (u : xN) : Option Int32 := f_X4_isBetween_L23 u (0 : Int32)
set_option maxRecDepth 20000 in
theorem go_X4_isBetween_L22 (u : xN) : xGm md_X4_isBetween (rsI (xU u)) (f_X4_isBetween_L22 u) 22 [] [] (xU u) := by
  unfold f_X4_isBetween_L22
  refine xm_blk0 (pc' := 23) (lv' := []) (st' := [.int (0 : Int32)]) (u' := (xU u)) [(.iconst 0, (0, 0, 0), 0, 0)] (by decide +kernel) rfl ?_
  exact go_X4_isBetween_L23 u (0 : Int32)
def f_X4_isBetween (a1 : Int32) (a2 : Int32) (u : xN) : Option Int32 := Option.bind (f_X4_lowerOf a2 u) (fun r3 => if a1 ≤ r3 then f_X4_isBetween_L22 u else Option.bind (f_X4_upperOf a2 u) (fun r12 => if r12 ≤ a1 then f_X4_isBetween_L22 u else f_X4_isBetween_L23 u (1 : Int32)))
set_option maxRecDepth 20000 in
theorem go_X4_isBetween (a1 : Int32) (a2 : Int32) (u : xN) : xGm md_X4_isBetween (rsI (xU u)) (f_X4_isBetween a1 a2 u) 0 [(0, .ref 39), (1, .int a1), (2, .int a2)] [] (xU u) := by
  unfold f_X4_isBetween
  refine xm_blk0 (pc' := 3) (lv' := [(0, .ref 39), (1, .int a1), (2, .int a2)]) (st' := [.int a2, .ref 39, .int a1]) (u' := (xU u)) [(.iload_n 1, (0, 0, 0), 0, 0), (.aload_n 0, (0, 0, 0), 0, 0), (.iload_n 2, (0, 0, 0), 0, 0)] (by decide +kernel) rfl ?_
  refine xm_Vi (pc := 3) (mz := md_X4_lowerOf) (idx := 163) (p1 := 1039) (a := 39) (as := [.int a2]) (st := [.int a1]) (ev_X4_lowerOf a2 u) mw_X4_lowerOf (by decide +kernel) (by decide +kernel) (by decide) rfl rfl (by decide) rfl (Nat.le_of_ble_eq_true rfl) (fun r3 => ?_)
  refine xm_icmp_le (pc := 6) (off := 16) (tgt := 22) (by decide +kernel) (by decide) ?_ ?_
  · refine xm_wk [] (lv' := []) rfl ?_
    exact go_X4_isBetween_L22 u
  · refine xm_blk0 (pc' := 12) (lv' := [(0, .ref 39), (1, .int a1), (2, .int a2)]) (st' := [.int a2, .ref 39, .int a1]) (u' := (xU u)) [(.iload_n 1, (0, 0, 0), 0, 0), (.aload_n 0, (0, 0, 0), 0, 0), (.iload_n 2, (0, 0, 0), 0, 0)] (by decide +kernel) rfl ?_
    refine xm_Vi (pc := 12) (mz := md_X4_upperOf) (idx := 160) (p1 := 1043) (a := 39) (as := [.int a2]) (st := [.int a1]) (ev_X4_upperOf a2 u) mw_X4_upperOf (by decide +kernel) (by decide +kernel) (by decide) rfl rfl (by decide) rfl (Nat.le_of_ble_eq_true rfl) (fun r12 => ?_)
    refine xm_icmp_ge (pc := 15) (off := 7) (tgt := 22) (by decide +kernel) (by decide) ?_ ?_
    · refine xm_wk [] (lv' := []) rfl ?_
      exact go_X4_isBetween_L22 u
    · refine xm_blk0 (pc' := 19) (lv' := [(0, .ref 39), (1, .int a1), (2, .int a2)]) (st' := [.int (1 : Int32)]) (u' := (xU u)) [(.iconst 1, (0, 0, 0), 1, 0)] (by decide +kernel) rfl ?_
      refine xm_goto (pc := 19) (off := 4) (tgt := 23) (by decide +kernel) (by decide) ?_
      refine xm_wk [] (lv' := []) rfl ?_
      exact go_X4_isBetween_L23 u (1 : Int32)
theorem ev_X4_isBetween (a1 : Int32) (a2 : Int32) (u : xN) : ∀ r, f_X4_isBetween a1 a2 u = some r → xEm md_X4_isBetween yX4_isBetween [.ref 39, .int a1, .int a2] (xU u) (some (.int r), (xU u)) := xm_met (res := (rsI (xU u))) (as := [.ref 39, .int a1, .int a2]) (go_X4_isBetween a1 a2 u) (by decide) rfl (Nat.le_of_ble_eq_true rfl)
theorem mw_X4_half : xMv yX4_half cX4_half 2 (some .int) 1 := xMv_of (p1 := 1054) (p2 := 1053) (p3 := 97) (p4 := 61) (by decide +kernel)
/-! NeitherBareModel.half(I)I (39, None) -/
abbrev md_X4_half : xMd := (cX4_half, RX4, 2, some .int, 2)
def f_X4_half (a1 : Int32) (u : xN) : Option Int32 := Option.bind (f_X4_lowerOf a1 u) (fun r2 => Option.bind (f_X4_upperOf a1 u) (fun r7 => gdl [nzi (2 : Int32)] (some ((r2 + r7) / (2 : Int32)))))
set_option maxRecDepth 20000 in
theorem go_X4_half (a1 : Int32) (u : xN) : xGm md_X4_half (rsI (xU u)) (f_X4_half a1 u) 0 [(0, .ref 39), (1, .int a1)] [] (xU u) := by
  unfold f_X4_half
  refine xm_blk0 (pc' := 2) (lv' := [(0, .ref 39), (1, .int a1)]) (st' := [.int a1, .ref 39]) (u' := (xU u)) [(.aload_n 0, (0, 0, 0), 0, 0), (.iload_n 1, (0, 0, 0), 0, 0)] (by decide +kernel) rfl ?_
  refine xm_Vi (pc := 2) (mz := md_X4_lowerOf) (idx := 163) (p1 := 1039) (a := 39) (as := [.int a1]) (st := []) (ev_X4_lowerOf a1 u) mw_X4_lowerOf (by decide +kernel) (by decide +kernel) (by decide) rfl rfl (by decide) rfl (Nat.le_of_ble_eq_true rfl) (fun r2 => ?_)
  refine xm_blk0 (pc' := 7) (lv' := [(0, .ref 39), (1, .int a1)]) (st' := [.int a1, .ref 39, .int r2]) (u' := (xU u)) [(.aload_n 0, (0, 0, 0), 0, 0), (.iload_n 1, (0, 0, 0), 0, 0)] (by decide +kernel) rfl ?_
  refine xm_Vi (pc := 7) (mz := md_X4_upperOf) (idx := 160) (p1 := 1043) (a := 39) (as := [.int a1]) (st := [.int r2]) (ev_X4_upperOf a1 u) mw_X4_upperOf (by decide +kernel) (by decide +kernel) (by decide) rfl rfl (by decide) rfl (Nat.le_of_ble_eq_true rfl) (fun r7 => ?_)
  refine xm_blk (bs := [nzi (2 : Int32)]) (pc' := 13) (lv' := [(0, .ref 39), (1, .int a1)]) (st' := [.int ((r2 + r7) / (2 : Int32))]) (u' := (xU u)) [(.iadd, (0, 0, 0), 0, 0), (.iconst 2, (0, 0, 0), 2, 0), (.idiv, (0, 0, 0), 0, 0)] (by decide +kernel) rfl ?_
  exact xm_iret (pc := 13) (by decide +kernel) rfl rfl
theorem ev_X4_half (a1 : Int32) (u : xN) : ∀ r, f_X4_half a1 u = some r → xEm md_X4_half yX4_half [.ref 39, .int a1] (xU u) (some (.int r), (xU u)) := xm_met (res := (rsI (xU u))) (as := [.ref 39, .int a1]) (go_X4_half a1 u) (by decide) rfl (Nat.le_of_ble_eq_true rfl)
theorem mw_X4_isLittle : xMv yX4_isLittle cX4_isLittle 3 (some .boolean) 2 := xMv_of (p1 := 1058) (p2 := 1057) (p3 := 97) (p4 := 62) (by decide +kernel)
/-! NeitherBareModel.isLittle(II)Z (39, None, None) -/
abbrev md_X4_isLittle : xMd := (cX4_isLittle, RX4, 3, some .boolean, 3)
def f_X4_isLittle_L19 (N : Nat) (u : xN) (t0 : Int32) : Option Int32 := gdl [isb t0] (some t0)
set_option maxRecDepth 20000 in
theorem go_X4_isLittle_L19 (N : Nat) (u : xN) (t0 : Int32) : xGm md_X4_isLittle (rsI (xU u)) (f_X4_isLittle_L19 N u t0) 19 [] [.int t0] (xU u) := by
  unfold f_X4_isLittle_L19
  exact xm_zret (pc := 19) (by decide +kernel) rfl rfl
def f_X4_isLittle (N : Nat) (a1 : Int32) (a2 : Int32) (u : xN) : Option Int32 := Option.bind (f_X4_valueOf N a1 a2 u) (fun r3 => Option.bind (f_X4_lowerOf a2 u) (fun r8 => if r8 < r3 then f_X4_isLittle_L19 N u (0 : Int32) else f_X4_isLittle_L19 N u (1 : Int32)))
set_option maxRecDepth 20000 in
theorem go_X4_isLittle (N : Nat) (a1 : Int32) (a2 : Int32) (u : xN) : xGm md_X4_isLittle (rsI (xU u)) (f_X4_isLittle N a1 a2 u) 0 [(0, .ref 39), (1, .int a1), (2, .int a2)] [] (xU u) := by
  unfold f_X4_isLittle
  refine xm_blk0 (pc' := 3) (lv' := [(0, .ref 39), (1, .int a1), (2, .int a2)]) (st' := [.int a2, .int a1, .ref 39]) (u' := (xU u)) [(.aload_n 0, (0, 0, 0), 0, 0), (.iload_n 1, (0, 0, 0), 0, 0), (.iload_n 2, (0, 0, 0), 0, 0)] (by decide +kernel) rfl ?_
  refine xm_Vi (pc := 3) (mz := md_X4_valueOf) (idx := 157) (p1 := 1028) (a := 39) (as := [.int a1, .int a2]) (st := []) (ev_X4_valueOf N a1 a2 u) mw_X4_valueOf (by decide +kernel) (by decide +kernel) (by decide) rfl rfl (by decide) rfl (Nat.le_of_ble_eq_true rfl) (fun r3 => ?_)
  refine xm_blk0 (pc' := 8) (lv' := [(0, .ref 39), (1, .int a1), (2, .int a2)]) (st' := [.int a2, .ref 39, .int r3]) (u' := (xU u)) [(.aload_n 0, (0, 0, 0), 0, 0), (.iload_n 2, (0, 0, 0), 0, 0)] (by decide +kernel) rfl ?_
  refine xm_Vi (pc := 8) (mz := md_X4_lowerOf) (idx := 163) (p1 := 1039) (a := 39) (as := [.int a2]) (st := [.int r3]) (ev_X4_lowerOf a2 u) mw_X4_lowerOf (by decide +kernel) (by decide +kernel) (by decide) rfl rfl (by decide) rfl (Nat.le_of_ble_eq_true rfl) (fun r8 => ?_)
  refine xm_icmp_gt (pc := 11) (off := 7) (tgt := 18) (by decide +kernel) (by decide) ?_ ?_
  · refine xm_blk0 (pc' := 19) (lv' := [(0, .ref 39), (1, .int a1), (2, .int a2)]) (st' := [.int (0 : Int32)]) (u' := (xU u)) [(.iconst 0, (0, 0, 0), 0, 0)] (by decide +kernel) rfl ?_
    refine xm_wk [] (lv' := []) rfl ?_
    exact go_X4_isLittle_L19 N u (0 : Int32)
  · refine xm_blk0 (pc' := 15) (lv' := [(0, .ref 39), (1, .int a1), (2, .int a2)]) (st' := [.int (1 : Int32)]) (u' := (xU u)) [(.iconst 1, (0, 0, 0), 1, 0)] (by decide +kernel) rfl ?_
    refine xm_goto (pc := 15) (off := 4) (tgt := 19) (by decide +kernel) (by decide) ?_
    refine xm_wk [] (lv' := []) rfl ?_
    exact go_X4_isLittle_L19 N u (1 : Int32)
theorem ev_X4_isLittle (N : Nat) (a1 : Int32) (a2 : Int32) (u : xN) : ∀ r, f_X4_isLittle N a1 a2 u = some r → xEm md_X4_isLittle yX4_isLittle [.ref 39, .int a1, .int a2] (xU u) (some (.int r), (xU u)) := xm_met (res := (rsI (xU u))) (as := [.ref 39, .int a1, .int a2]) (go_X4_isLittle N a1 a2 u) (by decide) rfl (Nat.le_of_ble_eq_true rfl)
theorem mw_X4_holdsOf : xMv yX4_holdsOf cX4_holdsOf 5 (some .boolean) 4 := xMv_of (p1 := 1027) (p2 := 1026) (p3 := 97) (p4 := 55) (by decide +kernel)
/-! NeitherBareModel.holdsOf(IIII)Z (39, None, None, None, None) -/
abbrev md_X4_holdsOf : xMd := (cX4_holdsOf, RX4, 5, some .boolean, 4)
def f_X4_holdsOf_L74 (N : Nat) (u : xN) (t0 : Int32) : Option Int32 := gdl [isb t0] (some t0)
set_option maxRecDepth 20000 in
theorem go_X4_holdsOf_L74 (N : Nat) (u : xN) (t0 : Int32) : xGm md_X4_holdsOf (rsI (xU u)) (f_X4_holdsOf_L74 N u t0) 74 [] [.int t0] (xU u) := by
  unfold f_X4_holdsOf_L74
  exact xm_zret (pc := 74) (by decide +kernel) rfl rfl
def f_X4_holdsOf_L73 (N : Nat) (u : xN) : Option Int32 := f_X4_holdsOf_L74 N u (0 : Int32)
set_option maxRecDepth 20000 in
theorem go_X4_holdsOf_L73 (N : Nat) (u : xN) : xGm md_X4_holdsOf (rsI (xU u)) (f_X4_holdsOf_L73 N u) 73 [] [] (xU u) := by
  unfold f_X4_holdsOf_L73
  refine xm_blk0 (pc' := 74) (lv' := []) (st' := [.int (0 : Int32)]) (u' := (xU u)) [(.iconst 0, (0, 0, 0), 0, 0)] (by decide +kernel) rfl ?_
  exact go_X4_holdsOf_L74 N u (0 : Int32)
def f_X4_holdsOf_L90 (N : Nat) (u : xN) (t0 : Int32) : Option Int32 := gdl [isb t0] (some t0)
set_option maxRecDepth 20000 in
theorem go_X4_holdsOf_L90 (N : Nat) (u : xN) (t0 : Int32) : xGm md_X4_holdsOf (rsI (xU u)) (f_X4_holdsOf_L90 N u t0) 90 [] [.int t0] (xU u) := by
  unfold f_X4_holdsOf_L90
  exact xm_zret (pc := 90) (by decide +kernel) rfl rfl
def f_X4_holdsOf_L124 (N : Nat) (u : xN) (t0 : Int32) : Option Int32 := gdl [isb t0] (some t0)
set_option maxRecDepth 20000 in
theorem go_X4_holdsOf_L124 (N : Nat) (u : xN) (t0 : Int32) : xGm md_X4_holdsOf (rsI (xU u)) (f_X4_holdsOf_L124 N u t0) 124 [] [.int t0] (xU u) := by
  unfold f_X4_holdsOf_L124
  exact xm_zret (pc := 124) (by decide +kernel) rfl rfl
def f_X4_holdsOf_L123 (N : Nat) (u : xN) : Option Int32 := f_X4_holdsOf_L124 N u (0 : Int32)
set_option maxRecDepth 20000 in
theorem go_X4_holdsOf_L123 (N : Nat) (u : xN) : xGm md_X4_holdsOf (rsI (xU u)) (f_X4_holdsOf_L123 N u) 123 [] [] (xU u) := by
  unfold f_X4_holdsOf_L123
  refine xm_blk0 (pc' := 124) (lv' := []) (st' := [.int (0 : Int32)]) (u' := (xU u)) [(.iconst 0, (0, 0, 0), 0, 0)] (by decide +kernel) rfl ?_
  exact go_X4_holdsOf_L124 N u (0 : Int32)
def f_X4_holdsOf_L150 (N : Nat) (u : xN) (t0 : Int32) : Option Int32 := gdl [isb t0] (some t0)
set_option maxRecDepth 20000 in
theorem go_X4_holdsOf_L150 (N : Nat) (u : xN) (t0 : Int32) : xGm md_X4_holdsOf (rsI (xU u)) (f_X4_holdsOf_L150 N u t0) 150 [] [.int t0] (xU u) := by
  unfold f_X4_holdsOf_L150
  exact xm_zret (pc := 150) (by decide +kernel) rfl rfl
def f_X4_holdsOf_L149 (N : Nat) (u : xN) : Option Int32 := f_X4_holdsOf_L150 N u (0 : Int32)
set_option maxRecDepth 20000 in
theorem go_X4_holdsOf_L149 (N : Nat) (u : xN) : xGm md_X4_holdsOf (rsI (xU u)) (f_X4_holdsOf_L149 N u) 149 [] [] (xU u) := by
  unfold f_X4_holdsOf_L149
  refine xm_blk0 (pc' := 150) (lv' := []) (st' := [.int (0 : Int32)]) (u' := (xU u)) [(.iconst 0, (0, 0, 0), 0, 0)] (by decide +kernel) rfl ?_
  exact go_X4_holdsOf_L150 N u (0 : Int32)
def f_X4_holdsOf (N : Nat) (a1 : Int32) (a2 : Int32) (a3 : Int32) (a4 : Int32) (u : xN) : Option Int32 := if Int32.toInt a1 < 1 ∨ 5 < Int32.toInt a1 then (Option.bind (f_X4_isMuch N a4 a2 u) (fun r155 => gdl [isb r155] (some r155))) else if a1 = (1 : Int32) then (Option.bind (f_X4_valueOf N a4 a2 u) (fun r41 => Option.bind (f_X4_isBetween r41 a2 u) (fun r45 => gdl [isb r45] (some r45)))) else if a1 = (2 : Int32) then (Option.bind (f_X4_isMuch N a4 a2 u) (fun r53 => if r53 = (0 : Int32) then f_X4_holdsOf_L73 N u else Option.bind (f_X4_isMuch N a4 a3 u) (fun r63 => if r63 = (0 : Int32) then f_X4_holdsOf_L73 N u else f_X4_holdsOf_L74 N u (1 : Int32)))) else if a1 = (3 : Int32) then (Option.bind (f_X4_isMuch N a4 a2 u) (fun r79 => if r79 = (0 : Int32) then f_X4_holdsOf_L90 N u (1 : Int32) else f_X4_holdsOf_L90 N u (0 : Int32))) else if a1 = (4 : Int32) then (Option.bind (f_X4_valueOf N a4 a2 u) (fun r95 => Option.bind (f_X4_half a2 u) (fun r100 => if r95 = r100 then Option.bind (f_X4_half a2 u) (fun r109 => Option.bind (f_X4_isBetween r109 a2 u) (fun r113 => if r113 = (0 : Int32) then f_X4_holdsOf_L123 N u else f_X4_holdsOf_L124 N u (1 : Int32))) else f_X4_holdsOf_L123 N u))) else if a1 = (5 : Int32) then (Option.bind (f_X4_isMuch N a4 a2 u) (fun r129 => if r129 = (0 : Int32) then f_X4_holdsOf_L149 N u else Option.bind (f_X4_isLittle N a4 a3 u) (fun r139 => if r139 = (0 : Int32) then f_X4_holdsOf_L149 N u else f_X4_holdsOf_L150 N u (1 : Int32)))) else none
set_option maxRecDepth 20000 in
theorem go_X4_holdsOf (N : Nat) (a1 : Int32) (a2 : Int32) (a3 : Int32) (a4 : Int32) (u : xN) : xGm md_X4_holdsOf (rsI (xU u)) (f_X4_holdsOf N a1 a2 a3 a4 u) 0 [(0, .ref 39), (1, .int a1), (2, .int a2), (3, .int a3), (4, .int a4)] [] (xU u) := by
  unfold f_X4_holdsOf
  refine xm_blk0 (pc' := 1) (lv' := [(0, .ref 39), (1, .int a1), (2, .int a2), (3, .int a3), (4, .int a4)]) (st' := [.int a1]) (u' := (xU u)) [(.iload_n 1, (0, 0, 0), 0, 0)] (by decide +kernel) rfl ?_
  refine xm_tout (pc := 1) (tgt := 151) (dflt := 150) (lo := 1) (hi := 5) (offs := #[35, 48, 74, 90, 124]) (len := 35) (by decide +kernel) (by decide) ?_ ?_
  · refine xm_blk0 (pc' := 155) (lv' := [(0, .ref 39), (1, .int a1), (2, .int a2), (3, .int a3), (4, .int a4)]) (st' := [.int a2, .int a4, .ref 39]) (u' := (xU u)) [(.aload_n 0, (0, 0, 0), 0, 0), (.iload 4, (0, 0, 0), 0, 0), (.iload_n 2, (0, 0, 0), 0, 0)] (by decide +kernel) rfl ?_
    refine xm_Vi (pc := 155) (mz := md_X4_isMuch) (idx := 169) (p1 := 1047) (a := 39) (as := [.int a4, .int a2]) (st := []) (ev_X4_isMuch N a4 a2 u) mw_X4_isMuch (by decide +kernel) (by decide +kernel) (by decide) rfl rfl (by decide) rfl (Nat.le_of_ble_eq_true rfl) (fun r155 => ?_)
    exact xm_zret (pc := 158) (by decide +kernel) rfl rfl
  · refine xm_tin (pc := 1) (tgt := 36) (off := 35) (dflt := 150) (lo := 1) (hi := 5) (offs := #[35, 48, 74, 90, 124]) (len := 35) (1 : Int32) (by decide +kernel) (by decide) (by decide) (by decide) (by decide) ?_ ?_
    · refine xm_blk0 (pc' := 41) (lv' := [(0, .ref 39), (1, .int a1), (2, .int a2), (3, .int a3), (4, .int a4)]) (st' := [.int a2, .int a4, .ref 39, .ref 39]) (u' := (xU u)) [(.aload_n 0, (0, 0, 0), 0, 0), (.aload_n 0, (0, 0, 0), 0, 0), (.iload 4, (0, 0, 0), 0, 0), (.iload_n 2, (0, 0, 0), 0, 0)] (by decide +kernel) rfl ?_
      refine xm_Vi (pc := 41) (mz := md_X4_valueOf) (idx := 157) (p1 := 1028) (a := 39) (as := [.int a4, .int a2]) (st := [.ref 39]) (ev_X4_valueOf N a4 a2 u) mw_X4_valueOf (by decide +kernel) (by decide +kernel) (by decide) rfl rfl (by decide) rfl (Nat.le_of_ble_eq_true rfl) (fun r41 => ?_)
      refine xm_blk0 (pc' := 45) (lv' := [(0, .ref 39), (1, .int a1), (2, .int a2), (3, .int a3), (4, .int a4)]) (st' := [.int a2, .int r41, .ref 39]) (u' := (xU u)) [(.iload_n 2, (0, 0, 0), 0, 0)] (by decide +kernel) rfl ?_
      refine xm_Vi (pc := 45) (mz := md_X4_isBetween) (idx := 166) (p1 := 1035) (a := 39) (as := [.int r41, .int a2]) (st := []) (ev_X4_isBetween r41 a2 u) mw_X4_isBetween (by decide +kernel) (by decide +kernel) (by decide) rfl rfl (by decide) rfl (Nat.le_of_ble_eq_true rfl) (fun r45 => ?_)
      exact xm_zret (pc := 48) (by decide +kernel) rfl rfl
    refine xm_tin (pc := 1) (tgt := 49) (off := 48) (dflt := 150) (lo := 1) (hi := 5) (offs := #[35, 48, 74, 90, 124]) (len := 35) (2 : Int32) (by decide +kernel) (by decide) (by decide) (by decide) (by decide) ?_ ?_
    · refine xm_blk0 (pc' := 53) (lv' := [(0, .ref 39), (1, .int a1), (2, .int a2), (3, .int a3), (4, .int a4)]) (st' := [.int a2, .int a4, .ref 39]) (u' := (xU u)) [(.aload_n 0, (0, 0, 0), 0, 0), (.iload 4, (0, 0, 0), 0, 0), (.iload_n 2, (0, 0, 0), 0, 0)] (by decide +kernel) rfl ?_
      refine xm_Vi (pc := 53) (mz := md_X4_isMuch) (idx := 169) (p1 := 1047) (a := 39) (as := [.int a4, .int a2]) (st := []) (ev_X4_isMuch N a4 a2 u) mw_X4_isMuch (by decide +kernel) (by decide +kernel) (by decide) rfl rfl (by decide) rfl (Nat.le_of_ble_eq_true rfl) (fun r53 => ?_)
      refine xm_if_eq (pc := 56) (off := 17) (tgt := 73) (by decide +kernel) (by decide) ?_ ?_
      · refine xm_wk [] (lv' := []) rfl ?_
        exact go_X4_holdsOf_L73 N u
      · refine xm_blk0 (pc' := 63) (lv' := [(0, .ref 39), (1, .int a1), (2, .int a2), (3, .int a3), (4, .int a4)]) (st' := [.int a3, .int a4, .ref 39]) (u' := (xU u)) [(.aload_n 0, (0, 0, 0), 0, 0), (.iload 4, (0, 0, 0), 0, 0), (.iload_n 3, (0, 0, 0), 0, 0)] (by decide +kernel) rfl ?_
        refine xm_Vi (pc := 63) (mz := md_X4_isMuch) (idx := 169) (p1 := 1047) (a := 39) (as := [.int a4, .int a3]) (st := []) (ev_X4_isMuch N a4 a3 u) mw_X4_isMuch (by decide +kernel) (by decide +kernel) (by decide) rfl rfl (by decide) rfl (Nat.le_of_ble_eq_true rfl) (fun r63 => ?_)
        refine xm_if_eq (pc := 66) (off := 7) (tgt := 73) (by decide +kernel) (by decide) ?_ ?_
        · refine xm_wk [] (lv' := []) rfl ?_
          exact go_X4_holdsOf_L73 N u
        · refine xm_blk0 (pc' := 70) (lv' := [(0, .ref 39), (1, .int a1), (2, .int a2), (3, .int a3), (4, .int a4)]) (st' := [.int (1 : Int32)]) (u' := (xU u)) [(.iconst 1, (0, 0, 0), 1, 0)] (by decide +kernel) rfl ?_
          refine xm_goto (pc := 70) (off := 4) (tgt := 74) (by decide +kernel) (by decide) ?_
          refine xm_wk [] (lv' := []) rfl ?_
          exact go_X4_holdsOf_L74 N u (1 : Int32)
    refine xm_tin (pc := 1) (tgt := 75) (off := 74) (dflt := 150) (lo := 1) (hi := 5) (offs := #[35, 48, 74, 90, 124]) (len := 35) (3 : Int32) (by decide +kernel) (by decide) (by decide) (by decide) (by decide) ?_ ?_
    · refine xm_blk0 (pc' := 79) (lv' := [(0, .ref 39), (1, .int a1), (2, .int a2), (3, .int a3), (4, .int a4)]) (st' := [.int a2, .int a4, .ref 39]) (u' := (xU u)) [(.aload_n 0, (0, 0, 0), 0, 0), (.iload 4, (0, 0, 0), 0, 0), (.iload_n 2, (0, 0, 0), 0, 0)] (by decide +kernel) rfl ?_
      refine xm_Vi (pc := 79) (mz := md_X4_isMuch) (idx := 169) (p1 := 1047) (a := 39) (as := [.int a4, .int a2]) (st := []) (ev_X4_isMuch N a4 a2 u) mw_X4_isMuch (by decide +kernel) (by decide +kernel) (by decide) rfl rfl (by decide) rfl (Nat.le_of_ble_eq_true rfl) (fun r79 => ?_)
      refine xm_if_ne (pc := 82) (off := 7) (tgt := 89) (by decide +kernel) (by decide) ?_ ?_
      · refine xm_blk0 (pc' := 90) (lv' := [(0, .ref 39), (1, .int a1), (2, .int a2), (3, .int a3), (4, .int a4)]) (st' := [.int (0 : Int32)]) (u' := (xU u)) [(.iconst 0, (0, 0, 0), 0, 0)] (by decide +kernel) rfl ?_
        refine xm_wk [] (lv' := []) rfl ?_
        exact go_X4_holdsOf_L90 N u (0 : Int32)
      · refine xm_blk0 (pc' := 86) (lv' := [(0, .ref 39), (1, .int a1), (2, .int a2), (3, .int a3), (4, .int a4)]) (st' := [.int (1 : Int32)]) (u' := (xU u)) [(.iconst 1, (0, 0, 0), 1, 0)] (by decide +kernel) rfl ?_
        refine xm_goto (pc := 86) (off := 4) (tgt := 90) (by decide +kernel) (by decide) ?_
        refine xm_wk [] (lv' := []) rfl ?_
        exact go_X4_holdsOf_L90 N u (1 : Int32)
    refine xm_tin (pc := 1) (tgt := 91) (off := 90) (dflt := 150) (lo := 1) (hi := 5) (offs := #[35, 48, 74, 90, 124]) (len := 35) (4 : Int32) (by decide +kernel) (by decide) (by decide) (by decide) (by decide) ?_ ?_
    · refine xm_blk0 (pc' := 95) (lv' := [(0, .ref 39), (1, .int a1), (2, .int a2), (3, .int a3), (4, .int a4)]) (st' := [.int a2, .int a4, .ref 39]) (u' := (xU u)) [(.aload_n 0, (0, 0, 0), 0, 0), (.iload 4, (0, 0, 0), 0, 0), (.iload_n 2, (0, 0, 0), 0, 0)] (by decide +kernel) rfl ?_
      refine xm_Vi (pc := 95) (mz := md_X4_valueOf) (idx := 157) (p1 := 1028) (a := 39) (as := [.int a4, .int a2]) (st := []) (ev_X4_valueOf N a4 a2 u) mw_X4_valueOf (by decide +kernel) (by decide +kernel) (by decide) rfl rfl (by decide) rfl (Nat.le_of_ble_eq_true rfl) (fun r95 => ?_)
      refine xm_blk0 (pc' := 100) (lv' := [(0, .ref 39), (1, .int a1), (2, .int a2), (3, .int a3), (4, .int a4)]) (st' := [.int a2, .ref 39, .int r95]) (u' := (xU u)) [(.aload_n 0, (0, 0, 0), 0, 0), (.iload_n 2, (0, 0, 0), 0, 0)] (by decide +kernel) rfl ?_
      refine xm_Vi (pc := 100) (mz := md_X4_half) (idx := 172) (p1 := 1051) (a := 39) (as := [.int a2]) (st := [.int r95]) (ev_X4_half a2 u) mw_X4_half (by decide +kernel) (by decide +kernel) (by decide) rfl rfl (by decide) rfl (Nat.le_of_ble_eq_true rfl) (fun r100 => ?_)
      refine xm_icmp_ne (pc := 103) (off := 20) (tgt := 123) (by decide +kernel) (by decide) ?_ ?_
      · refine xm_wk [] (lv' := []) rfl ?_
        exact go_X4_holdsOf_L123 N u
      · refine xm_blk0 (pc' := 109) (lv' := [(0, .ref 39), (1, .int a1), (2, .int a2), (3, .int a3), (4, .int a4)]) (st' := [.int a2, .ref 39, .ref 39]) (u' := (xU u)) [(.aload_n 0, (0, 0, 0), 0, 0), (.aload_n 0, (0, 0, 0), 0, 0), (.iload_n 2, (0, 0, 0), 0, 0)] (by decide +kernel) rfl ?_
        refine xm_Vi (pc := 109) (mz := md_X4_half) (idx := 172) (p1 := 1051) (a := 39) (as := [.int a2]) (st := [.ref 39]) (ev_X4_half a2 u) mw_X4_half (by decide +kernel) (by decide +kernel) (by decide) rfl rfl (by decide) rfl (Nat.le_of_ble_eq_true rfl) (fun r109 => ?_)
        refine xm_blk0 (pc' := 113) (lv' := [(0, .ref 39), (1, .int a1), (2, .int a2), (3, .int a3), (4, .int a4)]) (st' := [.int a2, .int r109, .ref 39]) (u' := (xU u)) [(.iload_n 2, (0, 0, 0), 0, 0)] (by decide +kernel) rfl ?_
        refine xm_Vi (pc := 113) (mz := md_X4_isBetween) (idx := 166) (p1 := 1035) (a := 39) (as := [.int r109, .int a2]) (st := []) (ev_X4_isBetween r109 a2 u) mw_X4_isBetween (by decide +kernel) (by decide +kernel) (by decide) rfl rfl (by decide) rfl (Nat.le_of_ble_eq_true rfl) (fun r113 => ?_)
        refine xm_if_eq (pc := 116) (off := 7) (tgt := 123) (by decide +kernel) (by decide) ?_ ?_
        · refine xm_wk [] (lv' := []) rfl ?_
          exact go_X4_holdsOf_L123 N u
        · refine xm_blk0 (pc' := 120) (lv' := [(0, .ref 39), (1, .int a1), (2, .int a2), (3, .int a3), (4, .int a4)]) (st' := [.int (1 : Int32)]) (u' := (xU u)) [(.iconst 1, (0, 0, 0), 1, 0)] (by decide +kernel) rfl ?_
          refine xm_goto (pc := 120) (off := 4) (tgt := 124) (by decide +kernel) (by decide) ?_
          refine xm_wk [] (lv' := []) rfl ?_
          exact go_X4_holdsOf_L124 N u (1 : Int32)
    refine xm_tin (pc := 1) (tgt := 125) (off := 124) (dflt := 150) (lo := 1) (hi := 5) (offs := #[35, 48, 74, 90, 124]) (len := 35) (5 : Int32) (by decide +kernel) (by decide) (by decide) (by decide) (by decide) ?_ ?_
    · refine xm_blk0 (pc' := 129) (lv' := [(0, .ref 39), (1, .int a1), (2, .int a2), (3, .int a3), (4, .int a4)]) (st' := [.int a2, .int a4, .ref 39]) (u' := (xU u)) [(.aload_n 0, (0, 0, 0), 0, 0), (.iload 4, (0, 0, 0), 0, 0), (.iload_n 2, (0, 0, 0), 0, 0)] (by decide +kernel) rfl ?_
      refine xm_Vi (pc := 129) (mz := md_X4_isMuch) (idx := 169) (p1 := 1047) (a := 39) (as := [.int a4, .int a2]) (st := []) (ev_X4_isMuch N a4 a2 u) mw_X4_isMuch (by decide +kernel) (by decide +kernel) (by decide) rfl rfl (by decide) rfl (Nat.le_of_ble_eq_true rfl) (fun r129 => ?_)
      refine xm_if_eq (pc := 132) (off := 17) (tgt := 149) (by decide +kernel) (by decide) ?_ ?_
      · refine xm_wk [] (lv' := []) rfl ?_
        exact go_X4_holdsOf_L149 N u
      · refine xm_blk0 (pc' := 139) (lv' := [(0, .ref 39), (1, .int a1), (2, .int a2), (3, .int a3), (4, .int a4)]) (st' := [.int a3, .int a4, .ref 39]) (u' := (xU u)) [(.aload_n 0, (0, 0, 0), 0, 0), (.iload 4, (0, 0, 0), 0, 0), (.iload_n 3, (0, 0, 0), 0, 0)] (by decide +kernel) rfl ?_
        refine xm_Vi (pc := 139) (mz := md_X4_isLittle) (idx := 175) (p1 := 1055) (a := 39) (as := [.int a4, .int a3]) (st := []) (ev_X4_isLittle N a4 a3 u) mw_X4_isLittle (by decide +kernel) (by decide +kernel) (by decide) rfl rfl (by decide) rfl (Nat.le_of_ble_eq_true rfl) (fun r139 => ?_)
        refine xm_if_eq (pc := 142) (off := 7) (tgt := 149) (by decide +kernel) (by decide) ?_ ?_
        · refine xm_wk [] (lv' := []) rfl ?_
          exact go_X4_holdsOf_L149 N u
        · refine xm_blk0 (pc' := 146) (lv' := [(0, .ref 39), (1, .int a1), (2, .int a2), (3, .int a3), (4, .int a4)]) (st' := [.int (1 : Int32)]) (u' := (xU u)) [(.iconst 1, (0, 0, 0), 1, 0)] (by decide +kernel) rfl ?_
          refine xm_goto (pc := 146) (off := 4) (tgt := 150) (by decide +kernel) (by decide) ?_
          refine xm_wk [] (lv' := []) rfl ?_
          exact go_X4_holdsOf_L150 N u (1 : Int32)
    exact xm_none
theorem ev_X4_holdsOf (N : Nat) (a1 : Int32) (a2 : Int32) (a3 : Int32) (a4 : Int32) (u : xN) : ∀ r, f_X4_holdsOf N a1 a2 a3 a4 u = some r → xEm md_X4_holdsOf yX4_holdsOf [.ref 39, .int a1, .int a2, .int a3, .int a4] (xU u) (some (.int r), (xU u)) := xm_met (res := (rsI (xU u))) (as := [.ref 39, .int a1, .int a2, .int a3, .int a4]) (go_X4_holdsOf N a1 a2 a3 a4 u) (by decide) rfl (Nat.le_of_ble_eq_true rfl)
theorem mw_X4_holdsIn : xMv yX4_holdsIn cX4_holdsIn 3 (some .boolean) 2 := xMv_of (p1 := 1152) (p2 := 1151) (p3 := 97) (p4 := 73) (by decide +kernel)
/-! NeitherBareModel.holdsIn(II)Z (39, None, None) -/
abbrev md_X4_holdsIn : xMd := (cX4_holdsIn, RX4, 3, some .boolean, 5)
def f_X4_holdsIn (N : Nat) (a1 : Int32) (a2 : Int32) (u : xN) : Option Int32 := gdl [inb a1 8, inb a1 8, inb a1 8] (Option.bind (f_X4_holdsOf N (u.1 42 (Int32.toNatClampNeg a1)) (u.1 43 (Int32.toNatClampNeg a1)) (u.1 44 (Int32.toNatClampNeg a1)) a2 u) (fun r20 => gdl [isb r20] (some r20)))
set_option maxRecDepth 20000 in
theorem go_X4_holdsIn (N : Nat) (a1 : Int32) (a2 : Int32) (u : xN) : xGm md_X4_holdsIn (rsI (xU u)) (f_X4_holdsIn N a1 a2 u) 0 [(0, .ref 39), (1, .int a1), (2, .int a2)] [] (xU u) := by
  unfold f_X4_holdsIn
  refine xm_blk (bs := [inb a1 8, inb a1 8, inb a1 8]) (pc' := 20) (lv' := [(0, .ref 39), (1, .int a1), (2, .int a2)]) (st' := [.int a2, .int (u.1 44 (Int32.toNatClampNeg a1)), .int (u.1 43 (Int32.toNatClampNeg a1)), .int (u.1 42 (Int32.toNatClampNeg a1)), .ref 39]) (u' := (xU u)) [(.aload_n 0, (0, 0, 0), 0, 0), (.aload_n 0, (0, 0, 0), 0, 0), (.getfield 16, (4, 4, 824), 0, 0), (.iload_n 1, (0, 0, 0), 0, 0), (.iaload, (0, 0, 0), 0, 0), (.aload_n 0, (0, 0, 0), 0, 0), (.getfield 19, (4, 5, 825), 0, 0), (.iload_n 1, (0, 0, 0), 0, 0), (.iaload, (0, 0, 0), 0, 0), (.aload_n 0, (0, 0, 0), 0, 0), (.getfield 22, (4, 6, 826), 0, 0), (.iload_n 1, (0, 0, 0), 0, 0), (.iaload, (0, 0, 0), 0, 0), (.iload_n 2, (0, 0, 0), 0, 0)] (by decide +kernel) rfl ?_
  refine xm_Vi (pc := 20) (mz := md_X4_holdsOf) (idx := 178) (p1 := 1024) (a := 39) (as := [.int (u.1 42 (Int32.toNatClampNeg a1)), .int (u.1 43 (Int32.toNatClampNeg a1)), .int (u.1 44 (Int32.toNatClampNeg a1)), .int a2]) (st := []) (ev_X4_holdsOf N (u.1 42 (Int32.toNatClampNeg a1)) (u.1 43 (Int32.toNatClampNeg a1)) (u.1 44 (Int32.toNatClampNeg a1)) a2 u) mw_X4_holdsOf (by decide +kernel) (by decide +kernel) (by decide) rfl rfl (by decide) rfl (Nat.le_of_ble_eq_true rfl) (fun r20 => ?_)
  exact xm_zret (pc := 23) (by decide +kernel) rfl rfl
theorem ev_X4_holdsIn (N : Nat) (a1 : Int32) (a2 : Int32) (u : xN) : ∀ r, f_X4_holdsIn N a1 a2 u = some r → xEm md_X4_holdsIn yX4_holdsIn [.ref 39, .int a1, .int a2] (xU u) (some (.int r), (xU u)) := xm_met (res := (rsI (xU u))) (as := [.ref 39, .int a1, .int a2]) (go_X4_holdsIn N a1 a2 u) (by decide) rfl (Nat.le_of_ble_eq_true rfl)
theorem mw_X4_heldBy : xMv yX4_heldBy cX4_heldBy 4 (some .int) 1 := xMv_of (p1 := 1148) (p2 := 1147) (p3 := 97) (p4 := 72) (by decide +kernel)
/-! NeitherBareModel.heldBy(I)I (39, None) -/
abbrev md_X4_heldBy : xMd := (cX4_heldBy, RX4, 4, some .int, 6)
def f_X4_heldBy_L29 (N : Nat) (u : xN) (rec4 : Int32 → Int32 → Int32 → Option Int32) (v1 : Int32) (v3 : Int32) (t0 : Int32) (t1 : Int32) : Option Int32 := rec4 v1 (t1 ||| t0) (v3 + (1 : Int32))
set_option maxRecDepth 20000 in
theorem go_X4_heldBy_L29 (N : Nat) (u : xN) (rec4 : Int32 → Int32 → Int32 → Option Int32) (h4 : ∀ (v1 : Int32) (v2 : Int32) (v3 : Int32), xGm md_X4_heldBy (rsI (xU u)) (rec4 v1 v2 v3) 4 [(0, .ref 39), (1, .int v1), (2, .int v2), (3, .int v3)] [] (xU u)) (v1 : Int32) (v3 : Int32) (t0 : Int32) (t1 : Int32) : xGm md_X4_heldBy (rsI (xU u)) (f_X4_heldBy_L29 N u rec4 v1 v3 t0 t1) 29 [(0, .ref 39), (1, .int v1), (3, .int v3)] [.int t0, .int t1] (xU u) := by
  unfold f_X4_heldBy_L29
  refine xm_blk0 (pc' := 34) (lv' := [(0, .ref 39), (1, .int v1), (2, .int (t1 ||| t0)), (3, .int (v3 + (1 : Int32)))]) (st' := []) (u' := (xU u)) [(.ior, (0, 0, 0), 0, 0), (.istore_n 2, (0, 0, 0), 0, 0), (.iinc 3 1, (0, 0, 0), 1, 0)] (by decide +kernel) rfl ?_
  refine xm_goto (pc := 34) (off := -30) (tgt := 4) (by decide +kernel) (by decide) ?_
  exact h4 v1 (t1 ||| t0) (v3 + (1 : Int32))
def f_X4_heldBy_L4b (N : Nat) (u : xN) (rec4 : Int32 → Int32 → Int32 → Option Int32) (v1 : Int32) (v2 : Int32) (v3 : Int32) : Option Int32 := if (u.1 39 3) ≤ v3 then some v2 else Option.bind (f_X4_holdsIn N v3 v1 u) (fun r16 => if r16 = (0 : Int32) then f_X4_heldBy_L29 N u rec4 v1 v3 (0 : Int32) v2 else f_X4_heldBy_L29 N u rec4 v1 v3 ((1 : Int32) <<< (v3 &&& 31)) v2)
set_option maxRecDepth 20000 in
theorem go_X4_heldBy_L4b (N : Nat) (u : xN) (rec4 : Int32 → Int32 → Int32 → Option Int32) (h4 : ∀ (v1 : Int32) (v2 : Int32) (v3 : Int32), xGm md_X4_heldBy (rsI (xU u)) (rec4 v1 v2 v3) 4 [(0, .ref 39), (1, .int v1), (2, .int v2), (3, .int v3)] [] (xU u)) (v1 : Int32) (v2 : Int32) (v3 : Int32) : xGm md_X4_heldBy (rsI (xU u)) (f_X4_heldBy_L4b N u rec4 v1 v2 v3) 4 [(0, .ref 39), (1, .int v1), (2, .int v2), (3, .int v3)] [] (xU u) := by
  unfold f_X4_heldBy_L4b
  refine xm_blk0 (pc' := 9) (lv' := [(0, .ref 39), (1, .int v1), (2, .int v2), (3, .int v3)]) (st' := [.int (u.1 39 3), .int v3]) (u' := (xU u)) [(.iload_n 3, (0, 0, 0), 0, 0), (.aload_n 0, (0, 0, 0), 0, 0), (.getfield 60, (4, 3, 823), 0, 0)] (by decide +kernel) rfl ?_
  refine xm_icmp_ge (pc := 9) (off := 28) (tgt := 37) (by decide +kernel) (by decide) ?_ ?_
  · refine xm_blk0 (pc' := 38) (lv' := [(0, .ref 39), (1, .int v1), (2, .int v2), (3, .int v3)]) (st' := [.int v2]) (u' := (xU u)) [(.iload_n 2, (0, 0, 0), 0, 0)] (by decide +kernel) rfl ?_
    exact xm_iret (pc := 38) (by decide +kernel) rfl rfl
  · refine xm_blk0 (pc' := 16) (lv' := [(0, .ref 39), (1, .int v1), (2, .int v2), (3, .int v3)]) (st' := [.int v1, .int v3, .ref 39, .int v2]) (u' := (xU u)) [(.iload_n 2, (0, 0, 0), 0, 0), (.aload_n 0, (0, 0, 0), 0, 0), (.iload_n 3, (0, 0, 0), 0, 0), (.iload_n 1, (0, 0, 0), 0, 0)] (by decide +kernel) rfl ?_
    refine xm_Vi (pc := 16) (mz := md_X4_holdsIn) (idx := 182) (p1 := 1149) (a := 39) (as := [.int v3, .int v1]) (st := [.int v2]) (ev_X4_holdsIn N v3 v1 u) mw_X4_holdsIn (by decide +kernel) (by decide +kernel) (by decide) rfl rfl (by decide) rfl (Nat.le_of_ble_eq_true rfl) (fun r16 => ?_)
    refine xm_if_eq (pc := 19) (off := 9) (tgt := 28) (by decide +kernel) (by decide) ?_ ?_
    · refine xm_blk0 (pc' := 29) (lv' := [(0, .ref 39), (1, .int v1), (2, .int v2), (3, .int v3)]) (st' := [.int (0 : Int32), .int v2]) (u' := (xU u)) [(.iconst 0, (0, 0, 0), 0, 0)] (by decide +kernel) rfl ?_
      refine xm_wk [0, 1, 3] (lv' := [(0, .ref 39), (1, .int v1), (3, .int v3)]) rfl ?_
      exact go_X4_heldBy_L29 N u rec4 h4 v1 v3 (0 : Int32) v2
    · refine xm_blk0 (pc' := 25) (lv' := [(0, .ref 39), (1, .int v1), (2, .int v2), (3, .int v3)]) (st' := [.int ((1 : Int32) <<< (v3 &&& 31)), .int v2]) (u' := (xU u)) [(.iconst 1, (0, 0, 0), 1, 0), (.iload_n 3, (0, 0, 0), 0, 0), (.ishl, (0, 0, 0), 0, 0)] (by decide +kernel) rfl ?_
      refine xm_goto (pc := 25) (off := 4) (tgt := 29) (by decide +kernel) (by decide) ?_
      refine xm_wk [0, 1, 3] (lv' := [(0, .ref 39), (1, .int v1), (3, .int v3)]) rfl ?_
      exact go_X4_heldBy_L29 N u rec4 h4 v1 v3 ((1 : Int32) <<< (v3 &&& 31)) v2
def f_X4_heldBy_L4 (N : Nat) (u : xN) : Nat → Int32 → Int32 → Int32 → Option Int32
  | 0 => fun _ _ _ => none
  | n + 1 => fun v1 v2 v3 => f_X4_heldBy_L4b N u (f_X4_heldBy_L4 N u n) v1 v2 v3
theorem go_X4_heldBy_L4 (N : Nat) (u : xN) : ∀ (n : Nat) (v1 : Int32) (v2 : Int32) (v3 : Int32), xGm md_X4_heldBy (rsI (xU u)) (f_X4_heldBy_L4 N u n v1 v2 v3) 4 [(0, .ref 39), (1, .int v1), (2, .int v2), (3, .int v3)] [] (xU u) := by
  intro n
  induction n with
  | zero => intro v1 v2 v3; exact xm_none
  | succ n ih => intro v1 v2 v3; exact go_X4_heldBy_L4b N u _ ih v1 v2 v3
def f_X4_heldBy (N : Nat) (a1 : Int32) (u : xN) : Option Int32 := f_X4_heldBy_L4 N u N a1 (0 : Int32) (0 : Int32)
set_option maxRecDepth 20000 in
theorem go_X4_heldBy (N : Nat) (a1 : Int32) (u : xN) : xGm md_X4_heldBy (rsI (xU u)) (f_X4_heldBy N a1 u) 0 [(0, .ref 39), (1, .int a1)] [] (xU u) := by
  unfold f_X4_heldBy
  refine xm_blk0 (pc' := 4) (lv' := [(0, .ref 39), (1, .int a1), (2, .int (0 : Int32)), (3, .int (0 : Int32))]) (st' := []) (u' := (xU u)) [(.iconst 0, (0, 0, 0), 0, 0), (.istore_n 2, (0, 0, 0), 0, 0), (.iconst 0, (0, 0, 0), 0, 0), (.istore_n 3, (0, 0, 0), 0, 0)] (by decide +kernel) rfl ?_
  exact go_X4_heldBy_L4 N u N a1 (0 : Int32) (0 : Int32)
theorem ev_X4_heldBy (N : Nat) (a1 : Int32) (u : xN) : ∀ r, f_X4_heldBy N a1 u = some r → xEm md_X4_heldBy yX4_heldBy [.ref 39, .int a1] (xU u) (some (.int r), (xU u)) := xm_met (res := (rsI (xU u))) (as := [.ref 39, .int a1]) (go_X4_heldBy N a1 u) (by decide) rfl (Nat.le_of_ble_eq_true rfl)
end
section
theorem i_vc : Claimed_1_1 ∧ Claimed_1_2 := sorry
end
