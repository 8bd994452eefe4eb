section
-- ===== PART A: goes FIRST, ahead of the names: the tables' words, and 'selects' of the private methods out of them =====
/-- a private method of a class that the tables say can be made, by its rows of tables_1 -/
def lw_okq (q : MethodName × Nat) : Prop := (q.1.cls ≠ "java/lang/invoke/MethodHandle" ∧ q.1.cls ≠ "java/lang/invoke/VarHandle") ∧ Cond.instantiable q.1.cls q.2 ∈ tables_1 ∧ Cond.privateMethod q.1 ∈ tables_1 ∧ Cond.instanceMethod q.1 ∈ tables_1
theorem lw_p0 : lw_okq (⟨"LastAsked", "refused", "(I)Z"⟩, 10) := ⟨⟨by decide +kernel, by decide +kernel⟩, List.mem_of_getElem? (i := 23) (by decide +kernel), List.mem_of_getElem? (i := 331) (by decide +kernel), List.mem_of_getElem? (i := 332) (by decide +kernel)⟩
theorem lw_p1 : lw_okq (⟨"LastAsked$Reader", "readLine", "()Z"⟩, 13) := ⟨⟨by decide +kernel, by decide +kernel⟩, List.mem_of_getElem? (i := 31) (by decide +kernel), List.mem_of_getElem? (i := 346) (by decide +kernel), List.mem_of_getElem? (i := 347) (by decide +kernel)⟩
theorem lw_p2 : lw_okq (⟨"LastAsked$Reader", "step", "()I"⟩, 13) := ⟨⟨by decide +kernel, by decide +kernel⟩, List.mem_of_getElem? (i := 31) (by decide +kernel), List.mem_of_getElem? (i := 350) (by decide +kernel), List.mem_of_getElem? (i := 351) (by decide +kernel)⟩
theorem lw_p3 : lw_okq (⟨"LastAsked$Reader", "stepWord", "()V"⟩, 13) := ⟨⟨by decide +kernel, by decide +kernel⟩, List.mem_of_getElem? (i := 31) (by decide +kernel), List.mem_of_getElem? (i := 354) (by decide +kernel), List.mem_of_getElem? (i := 355) (by decide +kernel)⟩
theorem lw_p4 : lw_okq (⟨"LastAsked$Reader", "stepWhole", "()V"⟩, 13) := ⟨⟨by decide +kernel, by decide +kernel⟩, List.mem_of_getElem? (i := 31) (by decide +kernel), List.mem_of_getElem? (i := 358) (by decide +kernel), List.mem_of_getElem? (i := 359) (by decide +kernel)⟩
theorem lw_p5 : lw_okq (⟨"LastAsked$Reader", "stands", "(J)Z"⟩, 13) := ⟨⟨by decide +kernel, by decide +kernel⟩, List.mem_of_getElem? (i := 31) (by decide +kernel), List.mem_of_getElem? (i := 363) (by decide +kernel), List.mem_of_getElem? (i := 364) (by decide +kernel)⟩
theorem lw_p6 : lw_okq (⟨"LastAsked$Reader", "spoil", "(I)Z"⟩, 13) := ⟨⟨by decide +kernel, by decide +kernel⟩, List.mem_of_getElem? (i := 31) (by decide +kernel), List.mem_of_getElem? (i := 367) (by decide +kernel), List.mem_of_getElem? (i := 368) (by decide +kernel)⟩
theorem lw_p7 : lw_okq (⟨"LastAsked$Reader", "readHead", "()Z"⟩, 13) := ⟨⟨by decide +kernel, by decide +kernel⟩, List.mem_of_getElem? (i := 31) (by decide +kernel), List.mem_of_getElem? (i := 371) (by decide +kernel), List.mem_of_getElem? (i := 372) (by decide +kernel)⟩
theorem lw_p8 : lw_okq (⟨"LastAsked$Reader", "takeWord", "(J)Z"⟩, 13) := ⟨⟨by decide +kernel, by decide +kernel⟩, List.mem_of_getElem? (i := 31) (by decide +kernel), List.mem_of_getElem? (i := 376) (by decide +kernel), List.mem_of_getElem? (i := 377) (by decide +kernel)⟩
theorem lw_p9 : lw_okq (⟨"LastAsked$Reader", "takeWhole", "(I)Z"⟩, 13) := ⟨⟨by decide +kernel, by decide +kernel⟩, List.mem_of_getElem? (i := 31) (by decide +kernel), List.mem_of_getElem? (i := 380) (by decide +kernel), List.mem_of_getElem? (i := 381) (by decide +kernel)⟩
theorem lw_p10 : lw_okq (⟨"LastAsked$Reader", "readNewPerson", "()Z"⟩, 13) := ⟨⟨by decide +kernel, by decide +kernel⟩, List.mem_of_getElem? (i := 31) (by decide +kernel), List.mem_of_getElem? (i := 390) (by decide +kernel), List.mem_of_getElem? (i := 391) (by decide +kernel)⟩
theorem lw_p11 : lw_okq (⟨"LastAsked$Reader", "isName", "()Z"⟩, 13) := ⟨⟨by decide +kernel, by decide +kernel⟩, List.mem_of_getElem? (i := 31) (by decide +kernel), List.mem_of_getElem? (i := 394) (by decide +kernel), List.mem_of_getElem? (i := 395) (by decide +kernel)⟩
theorem lw_p12 : lw_okq (⟨"LastAsked$Reader", "bearer", "()I"⟩, 13) := ⟨⟨by decide +kernel, by decide +kernel⟩, List.mem_of_getElem? (i := 31) (by decide +kernel), List.mem_of_getElem? (i := 399) (by decide +kernel), List.mem_of_getElem? (i := 400) (by decide +kernel)⟩
theorem lw_p13 : lw_okq (⟨"LastAsked$Reader", "takeKind", "()I"⟩, 13) := ⟨⟨by decide +kernel, by decide +kernel⟩, List.mem_of_getElem? (i := 31) (by decide +kernel), List.mem_of_getElem? (i := 403) (by decide +kernel), List.mem_of_getElem? (i := 404) (by decide +kernel)⟩
theorem lw_p14 : lw_okq (⟨"LastAsked$Reader", "readNear", "()Z"⟩, 13) := ⟨⟨by decide +kernel, by decide +kernel⟩, List.mem_of_getElem? (i := 31) (by decide +kernel), List.mem_of_getElem? (i := 413) (by decide +kernel), List.mem_of_getElem? (i := 414) (by decide +kernel)⟩
theorem lw_p15 : lw_okq (⟨"LastAsked$Reader", "takePerson", "()I"⟩, 13) := ⟨⟨by decide +kernel, by decide +kernel⟩, List.mem_of_getElem? (i := 31) (by decide +kernel), List.mem_of_getElem? (i := 417) (by decide +kernel), List.mem_of_getElem? (i := 418) (by decide +kernel)⟩
def lw_privs_1 : List (MethodName × Nat) := [(⟨"LastAsked", "refused", "(I)Z"⟩, 10), (⟨"LastAsked$Reader", "readLine", "()Z"⟩, 13), (⟨"LastAsked$Reader", "step", "()I"⟩, 13), (⟨"LastAsked$Reader", "stepWord", "()V"⟩, 13), (⟨"LastAsked$Reader", "stepWhole", "()V"⟩, 13), (⟨"LastAsked$Reader", "stands", "(J)Z"⟩, 13), (⟨"LastAsked$Reader", "spoil", "(I)Z"⟩, 13), (⟨"LastAsked$Reader", "readHead", "()Z"⟩, 13), (⟨"LastAsked$Reader", "takeWord", "(J)Z"⟩, 13), (⟨"LastAsked$Reader", "takeWhole", "(I)Z"⟩, 13), (⟨"LastAsked$Reader", "readNewPerson", "()Z"⟩, 13), (⟨"LastAsked$Reader", "isName", "()Z"⟩, 13), (⟨"LastAsked$Reader", "bearer", "()I"⟩, 13), (⟨"LastAsked$Reader", "takeKind", "()I"⟩, 13), (⟨"LastAsked$Reader", "readNear", "()Z"⟩, 13), (⟨"LastAsked$Reader", "takePerson", "()I"⟩, 13)]
theorem lw_r1 : ∀ q ∈ lw_privs_1, lw_okq q := List.forall_mem_cons.mpr ⟨lw_p0, List.forall_mem_cons.mpr ⟨lw_p1, List.forall_mem_cons.mpr ⟨lw_p2, List.forall_mem_cons.mpr ⟨lw_p3, List.forall_mem_cons.mpr ⟨lw_p4, List.forall_mem_cons.mpr ⟨lw_p5, List.forall_mem_cons.mpr ⟨lw_p6, List.forall_mem_cons.mpr ⟨lw_p7, List.forall_mem_cons.mpr ⟨lw_p8, List.forall_mem_cons.mpr ⟨lw_p9, List.forall_mem_cons.mpr ⟨lw_p10, List.forall_mem_cons.mpr ⟨lw_p11, List.forall_mem_cons.mpr ⟨lw_p12, List.forall_mem_cons.mpr ⟨lw_p13, List.forall_mem_cons.mpr ⟨lw_p14, List.forall_mem_cons.mpr ⟨lw_p15, fun _ h => absurd h List.not_mem_nil⟩⟩⟩⟩⟩⟩⟩⟩⟩⟩⟩⟩⟩⟩⟩⟩
theorem lw_p16 : lw_okq (⟨"LastAsked$Reader", "personHere", "()I"⟩, 13) := ⟨⟨by decide +kernel, by decide +kernel⟩, List.mem_of_getElem? (i := 31) (by decide +kernel), List.mem_of_getElem? (i := 421) (by decide +kernel), List.mem_of_getElem? (i := 422) (by decide +kernel)⟩
theorem lw_p17 : lw_okq (⟨"LastAsked$Reader", "readAsked", "()Z"⟩, 13) := ⟨⟨by decide +kernel, by decide +kernel⟩, List.mem_of_getElem? (i := 31) (by decide +kernel), List.mem_of_getElem? (i := 428) (by decide +kernel), List.mem_of_getElem? (i := 429) (by decide +kernel)⟩
theorem lw_p18 : lw_okq (⟨"LastAsked$Reader", "takePair", "()I"⟩, 13) := ⟨⟨by decide +kernel, by decide +kernel⟩, List.mem_of_getElem? (i := 31) (by decide +kernel), List.mem_of_getElem? (i := 432) (by decide +kernel), List.mem_of_getElem? (i := 433) (by decide +kernel)⟩
theorem lw_p19 : lw_okq (⟨"LastAsked$Reader", "readHeard", "()Z"⟩, 13) := ⟨⟨by decide +kernel, by decide +kernel⟩, List.mem_of_getElem? (i := 31) (by decide +kernel), List.mem_of_getElem? (i := 445) (by decide +kernel), List.mem_of_getElem? (i := 446) (by decide +kernel)⟩
theorem lw_p20 : lw_okq (⟨"LastAsked$Reader", "readWent", "()Z"⟩, 13) := ⟨⟨by decide +kernel, by decide +kernel⟩, List.mem_of_getElem? (i := 31) (by decide +kernel), List.mem_of_getElem? (i := 450) (by decide +kernel), List.mem_of_getElem? (i := 451) (by decide +kernel)⟩
theorem lw_p21 : lw_okq (⟨"LastAsked", "isPerson", "(I)Z"⟩, 10) := ⟨⟨by decide +kernel, by decide +kernel⟩, List.mem_of_getElem? (i := 23) (by decide +kernel), List.mem_of_getElem? (i := 492) (by decide +kernel), List.mem_of_getElem? (i := 493) (by decide +kernel)⟩
theorem lw_p22 : lw_okq (⟨"LastAsked", "askable", "(I)I"⟩, 10) := ⟨⟨by decide +kernel, by decide +kernel⟩, List.mem_of_getElem? (i := 23) (by decide +kernel), List.mem_of_getElem? (i := 501) (by decide +kernel), List.mem_of_getElem? (i := 502) (by decide +kernel)⟩
theorem lw_p23 : lw_okq (⟨"LastAsked", "askers", "(I)I"⟩, 10) := ⟨⟨by decide +kernel, by decide +kernel⟩, List.mem_of_getElem? (i := 23) (by decide +kernel), List.mem_of_getElem? (i := 506) (by decide +kernel), List.mem_of_getElem? (i := 507) (by decide +kernel)⟩
theorem lw_p24 : lw_okq (⟨"LastAsked", "areTwo", "(II)Z"⟩, 10) := ⟨⟨by decide +kernel, by decide +kernel⟩, List.mem_of_getElem? (i := 23) (by decide +kernel), List.mem_of_getElem? (i := 514) (by decide +kernel), List.mem_of_getElem? (i := 515) (by decide +kernel)⟩
theorem lw_p25 : lw_okq (⟨"LastAsked", "livesOr", "(I)I"⟩, 10) := ⟨⟨by decide +kernel, by decide +kernel⟩, List.mem_of_getElem? (i := 23) (by decide +kernel), List.mem_of_getElem? (i := 523) (by decide +kernel), List.mem_of_getElem? (i := 524) (by decide +kernel)⟩
theorem lw_p26 : lw_okq (⟨"LastAsked", "willsNow", "()LLastAsked$Wills;"⟩, 10) := ⟨⟨by decide +kernel, by decide +kernel⟩, List.mem_of_getElem? (i := 23) (by decide +kernel), List.mem_of_getElem? (i := 527) (by decide +kernel), List.mem_of_getElem? (i := 528) (by decide +kernel)⟩
theorem lw_p27 : lw_okq (⟨"LastAsked", "heirsTo", "(I)I"⟩, 10) := ⟨⟨by decide +kernel, by decide +kernel⟩, List.mem_of_getElem? (i := 23) (by decide +kernel), List.mem_of_getElem? (i := 544) (by decide +kernel), List.mem_of_getElem? (i := 545) (by decide +kernel)⟩
theorem lw_p28 : lw_okq (⟨"LastAsked", "hasBehind", "(II)I"⟩, 10) := ⟨⟨by decide +kernel, by decide +kernel⟩, List.mem_of_getElem? (i := 23) (by decide +kernel), List.mem_of_getElem? (i := 552) (by decide +kernel), List.mem_of_getElem? (i := 553) (by decide +kernel)⟩
theorem lw_p29 : lw_okq (⟨"LastAsked", "isCity", "()Z"⟩, 10) := ⟨⟨by decide +kernel, by decide +kernel⟩, List.mem_of_getElem? (i := 23) (by decide +kernel), List.mem_of_getElem? (i := 565) (by decide +kernel), List.mem_of_getElem? (i := 566) (by decide +kernel)⟩
theorem lw_p30 : lw_okq (⟨"LastAsked", "richestOf", "(I)I"⟩, 10) := ⟨⟨by decide +kernel, by decide +kernel⟩, List.mem_of_getElem? (i := 23) (by decide +kernel), List.mem_of_getElem? (i := 573) (by decide +kernel), List.mem_of_getElem? (i := 574) (by decide +kernel)⟩
theorem lw_p31 : lw_okq (⟨"LastAsked", "isLivingSet", "(I)Z"⟩, 10) := ⟨⟨by decide +kernel, by decide +kernel⟩, List.mem_of_getElem? (i := 23) (by decide +kernel), List.mem_of_getElem? (i := 581) (by decide +kernel), List.mem_of_getElem? (i := 582) (by decide +kernel)⟩
def lw_privs_2 : List (MethodName × Nat) := [(⟨"LastAsked$Reader", "personHere", "()I"⟩, 13), (⟨"LastAsked$Reader", "readAsked", "()Z"⟩, 13), (⟨"LastAsked$Reader", "takePair", "()I"⟩, 13), (⟨"LastAsked$Reader", "readHeard", "()Z"⟩, 13), (⟨"LastAsked$Reader", "readWent", "()Z"⟩, 13), (⟨"LastAsked", "isPerson", "(I)Z"⟩, 10), (⟨"LastAsked", "askable", "(I)I"⟩, 10), (⟨"LastAsked", "askers", "(I)I"⟩, 10), (⟨"LastAsked", "areTwo", "(II)Z"⟩, 10), (⟨"LastAsked", "livesOr", "(I)I"⟩, 10), (⟨"LastAsked", "willsNow", "()LLastAsked$Wills;"⟩, 10), (⟨"LastAsked", "heirsTo", "(I)I"⟩, 10), (⟨"LastAsked", "hasBehind", "(II)I"⟩, 10), (⟨"LastAsked", "isCity", "()Z"⟩, 10), (⟨"LastAsked", "richestOf", "(I)I"⟩, 10), (⟨"LastAsked", "isLivingSet", "(I)Z"⟩, 10)]
theorem lw_r2 : ∀ q ∈ lw_privs_2, lw_okq q := List.forall_mem_cons.mpr ⟨lw_p16, List.forall_mem_cons.mpr ⟨lw_p17, List.forall_mem_cons.mpr ⟨lw_p18, List.forall_mem_cons.mpr ⟨lw_p19, List.forall_mem_cons.mpr ⟨lw_p20, List.forall_mem_cons.mpr ⟨lw_p21, List.forall_mem_cons.mpr ⟨lw_p22, List.forall_mem_cons.mpr ⟨lw_p23, List.forall_mem_cons.mpr ⟨lw_p24, List.forall_mem_cons.mpr ⟨lw_p25, List.forall_mem_cons.mpr ⟨lw_p26, List.forall_mem_cons.mpr ⟨lw_p27, List.forall_mem_cons.mpr ⟨lw_p28, List.forall_mem_cons.mpr ⟨lw_p29, List.forall_mem_cons.mpr ⟨lw_p30, List.forall_mem_cons.mpr ⟨lw_p31, fun _ h => absurd h List.not_mem_nil⟩⟩⟩⟩⟩⟩⟩⟩⟩⟩⟩⟩⟩⟩⟩⟩
theorem lw_p32 : lw_okq (⟨"LastAsked", "meanOf", "(ILLastAsked$State;)J"⟩, 10) := ⟨⟨by decide +kernel, by decide +kernel⟩, List.mem_of_getElem? (i := 23) (by decide +kernel), List.mem_of_getElem? (i := 618) (by decide +kernel), List.mem_of_getElem? (i := 619) (by decide +kernel)⟩
theorem lw_p33 : lw_okq (⟨"LastAsked", "likely", "(II)J"⟩, 10) := ⟨⟨by decide +kernel, by decide +kernel⟩, List.mem_of_getElem? (i := 23) (by decide +kernel), List.mem_of_getElem? (i := 622) (by decide +kernel), List.mem_of_getElem? (i := 623) (by decide +kernel)⟩
theorem lw_p34 : lw_okq (⟨"LastAsked", "likelyToHave", "(II)J"⟩, 10) := ⟨⟨by decide +kernel, by decide +kernel⟩, List.mem_of_getElem? (i := 23) (by decide +kernel), List.mem_of_getElem? (i := 638) (by decide +kernel), List.mem_of_getElem? (i := 639) (by decide +kernel)⟩
theorem lw_p35 : lw_okq (⟨"LastAsked", "seekerOr", "(IZ)I"⟩, 10) := ⟨⟨by decide +kernel, by decide +kernel⟩, List.mem_of_getElem? (i := 23) (by decide +kernel), List.mem_of_getElem? (i := 658) (by decide +kernel), List.mem_of_getElem? (i := 659) (by decide +kernel)⟩
theorem lw_p36 : lw_okq (⟨"LastAsked", "bestRow", "(II)I"⟩, 10) := ⟨⟨by decide +kernel, by decide +kernel⟩, List.mem_of_getElem? (i := 23) (by decide +kernel), List.mem_of_getElem? (i := 662) (by decide +kernel), List.mem_of_getElem? (i := 663) (by decide +kernel)⟩
theorem lw_p37 : lw_okq (⟨"LastAsked", "meanByRow", "(II)J"⟩, 10) := ⟨⟨by decide +kernel, by decide +kernel⟩, List.mem_of_getElem? (i := 23) (by decide +kernel), List.mem_of_getElem? (i := 669) (by decide +kernel), List.mem_of_getElem? (i := 670) (by decide +kernel)⟩
theorem lw_p38 : lw_okq (⟨"LastAsked", "bestTour", "(II)I"⟩, 10) := ⟨⟨by decide +kernel, by decide +kernel⟩, List.mem_of_getElem? (i := 23) (by decide +kernel), List.mem_of_getElem? (i := 691) (by decide +kernel), List.mem_of_getElem? (i := 692) (by decide +kernel)⟩
theorem lw_p39 : lw_okq (⟨"LastAsked$Walks", "leastTo", "(III[I)I"⟩, 1) := ⟨⟨by decide +kernel, by decide +kernel⟩, List.mem_of_getElem? (i := 253) (by decide +kernel), List.mem_of_getElem? (i := 700) (by decide +kernel), List.mem_of_getElem? (i := 701) (by decide +kernel)⟩
theorem lw_p40 : lw_okq (⟨"LastAsked", "meanByTour", "(II)J"⟩, 10) := ⟨⟨by decide +kernel, by decide +kernel⟩, List.mem_of_getElem? (i := 23) (by decide +kernel), List.mem_of_getElem? (i := 710) (by decide +kernel), List.mem_of_getElem? (i := 711) (by decide +kernel)⟩
theorem lw_p41 : lw_okq (⟨"LastAsked$Fits", "open", "(LLastAsked$City;)V"⟩, 6) := ⟨⟨by decide +kernel, by decide +kernel⟩, List.mem_of_getElem? (i := 263) (by decide +kernel), List.mem_of_getElem? (i := 738) (by decide +kernel), List.mem_of_getElem? (i := 739) (by decide +kernel)⟩
theorem lw_p42 : lw_okq (⟨"LastAsked$Fits", "holds", "(LLastAsked$City;I)Z"⟩, 6) := ⟨⟨by decide +kernel, by decide +kernel⟩, List.mem_of_getElem? (i := 263) (by decide +kernel), List.mem_of_getElem? (i := 746) (by decide +kernel), List.mem_of_getElem? (i := 747) (by decide +kernel)⟩
theorem lw_p43 : lw_okq (⟨"LastAsked$Fits", "countByHours", "(LLastAsked$City;)I"⟩, 6) := ⟨⟨by decide +kernel, by decide +kernel⟩, List.mem_of_getElem? (i := 263) (by decide +kernel), List.mem_of_getElem? (i := 781) (by decide +kernel), List.mem_of_getElem? (i := 782) (by decide +kernel)⟩
theorem lw_p44 : lw_okq (⟨"LastAsked", "shameOr", "(I)I"⟩, 10) := ⟨⟨by decide +kernel, by decide +kernel⟩, List.mem_of_getElem? (i := 23) (by decide +kernel), List.mem_of_getElem? (i := 803) (by decide +kernel), List.mem_of_getElem? (i := 804) (by decide +kernel)⟩
theorem lw_p45 : lw_okq (⟨"LastAsked", "drawsOr", "(II)I"⟩, 10) := ⟨⟨by decide +kernel, by decide +kernel⟩, List.mem_of_getElem? (i := 23) (by decide +kernel), List.mem_of_getElem? (i := 825) (by decide +kernel), List.mem_of_getElem? (i := 826) (by decide +kernel)⟩
theorem lw_p46 : lw_okq (⟨"LastAsked", "sleep", "(II)V"⟩, 10) := ⟨⟨by decide +kernel, by decide +kernel⟩, List.mem_of_getElem? (i := 23) (by decide +kernel), List.mem_of_getElem? (i := 830) (by decide +kernel), List.mem_of_getElem? (i := 831) (by decide +kernel)⟩
theorem lw_p47 : lw_okq (⟨"LastAsked", "passNight", "(LLastAsked$State;)I"⟩, 10) := ⟨⟨by decide +kernel, by decide +kernel⟩, List.mem_of_getElem? (i := 23) (by decide +kernel), List.mem_of_getElem? (i := 834) (by decide +kernel), List.mem_of_getElem? (i := 835) (by decide +kernel)⟩
def lw_privs_3 : List (MethodName × Nat) := [(⟨"LastAsked", "meanOf", "(ILLastAsked$State;)J"⟩, 10), (⟨"LastAsked", "likely", "(II)J"⟩, 10), (⟨"LastAsked", "likelyToHave", "(II)J"⟩, 10), (⟨"LastAsked", "seekerOr", "(IZ)I"⟩, 10), (⟨"LastAsked", "bestRow", "(II)I"⟩, 10), (⟨"LastAsked", "meanByRow", "(II)J"⟩, 10), (⟨"LastAsked", "bestTour", "(II)I"⟩, 10), (⟨"LastAsked$Walks", "leastTo", "(III[I)I"⟩, 1), (⟨"LastAsked", "meanByTour", "(II)J"⟩, 10), (⟨"LastAsked$Fits", "open", "(LLastAsked$City;)V"⟩, 6), (⟨"LastAsked$Fits", "holds", "(LLastAsked$City;I)Z"⟩, 6), (⟨"LastAsked$Fits", "countByHours", "(LLastAsked$City;)I"⟩, 6), (⟨"LastAsked", "shameOr", "(I)I"⟩, 10), (⟨"LastAsked", "drawsOr", "(II)I"⟩, 10), (⟨"LastAsked", "sleep", "(II)V"⟩, 10), (⟨"LastAsked", "passNight", "(LLastAsked$State;)I"⟩, 10)]
theorem lw_r3 : ∀ q ∈ lw_privs_3, lw_okq q := List.forall_mem_cons.mpr ⟨lw_p32, List.forall_mem_cons.mpr ⟨lw_p33, List.forall_mem_cons.mpr ⟨lw_p34, List.forall_mem_cons.mpr ⟨lw_p35, List.forall_mem_cons.mpr ⟨lw_p36, List.forall_mem_cons.mpr ⟨lw_p37, List.forall_mem_cons.mpr ⟨lw_p38, List.forall_mem_cons.mpr ⟨lw_p39, List.forall_mem_cons.mpr ⟨lw_p40, List.forall_mem_cons.mpr ⟨lw_p41, List.forall_mem_cons.mpr ⟨lw_p42, List.forall_mem_cons.mpr ⟨lw_p43, List.forall_mem_cons.mpr ⟨lw_p44, List.forall_mem_cons.mpr ⟨lw_p45, List.forall_mem_cons.mpr ⟨lw_p46, List.forall_mem_cons.mpr ⟨lw_p47, fun _ h => absurd h List.not_mem_nil⟩⟩⟩⟩⟩⟩⟩⟩⟩⟩⟩⟩⟩⟩⟩⟩
theorem lw_p48 : lw_okq (⟨"LastAsked", "askTrouble", "(II)I"⟩, 10) := ⟨⟨by decide +kernel, by decide +kernel⟩, List.mem_of_getElem? (i := 23) (by decide +kernel), List.mem_of_getElem? (i := 860) (by decide +kernel), List.mem_of_getElem? (i := 861) (by decide +kernel)⟩
theorem lw_p49 : lw_okq (⟨"java/lang/Throwable", "fillInStackTrace", "(I)Ljava/lang/Throwable;"⟩, 6) := ⟨⟨by decide +kernel, by decide +kernel⟩, List.mem_of_getElem? (i := 964) (by decide +kernel), List.mem_of_getElem? (i := 962) (by decide +kernel), List.mem_of_getElem? (i := 963) (by decide +kernel)⟩
theorem lw_p50 : lw_okq (⟨"LastAskedModel", "refused", "(I)I"⟩, 37) := ⟨⟨by decide +kernel, by decide +kernel⟩, List.mem_of_getElem? (i := 989) (by decide +kernel), List.mem_of_getElem? (i := 1119) (by decide +kernel), List.mem_of_getElem? (i := 1120) (by decide +kernel)⟩
theorem lw_p51 : lw_okq (⟨"LastAskedModel", "goesOn", "()V"⟩, 37) := ⟨⟨by decide +kernel, by decide +kernel⟩, List.mem_of_getElem? (i := 989) (by decide +kernel), List.mem_of_getElem? (i := 1193) (by decide +kernel), List.mem_of_getElem? (i := 1194) (by decide +kernel)⟩
theorem lw_p52 : lw_okq (⟨"LastAskedModel", "byteAt", "(I)I"⟩, 37) := ⟨⟨by decide +kernel, by decide +kernel⟩, List.mem_of_getElem? (i := 989) (by decide +kernel), List.mem_of_getElem? (i := 1197) (by decide +kernel), List.mem_of_getElem? (i := 1198) (by decide +kernel)⟩
theorem lw_p53 : lw_okq (⟨"LastAskedModel", "readAll", "()V"⟩, 37) := ⟨⟨by decide +kernel, by decide +kernel⟩, List.mem_of_getElem? (i := 989) (by decide +kernel), List.mem_of_getElem? (i := 1208) (by decide +kernel), List.mem_of_getElem? (i := 1209) (by decide +kernel)⟩
theorem lw_p54 : lw_okq (⟨"LastAskedModel", "readLine", "()V"⟩, 37) := ⟨⟨by decide +kernel, by decide +kernel⟩, List.mem_of_getElem? (i := 989) (by decide +kernel), List.mem_of_getElem? (i := 1212) (by decide +kernel), List.mem_of_getElem? (i := 1213) (by decide +kernel)⟩
theorem lw_p55 : lw_okq (⟨"LastAskedModel", "isWord", "(Ljava/lang/String;)Z"⟩, 37) := ⟨⟨by decide +kernel, by decide +kernel⟩, List.mem_of_getElem? (i := 989) (by decide +kernel), List.mem_of_getElem? (i := 1217) (by decide +kernel), List.mem_of_getElem? (i := 1218) (by decide +kernel)⟩
theorem lw_p56 : lw_okq (⟨"LastAskedModel", "readCity", "()V"⟩, 37) := ⟨⟨by decide +kernel, by decide +kernel⟩, List.mem_of_getElem? (i := 989) (by decide +kernel), List.mem_of_getElem? (i := 1272) (by decide +kernel), List.mem_of_getElem? (i := 1273) (by decide +kernel)⟩
theorem lw_p57 : lw_okq (⟨"LastAskedModel", "flaw", "(I)V"⟩, 37) := ⟨⟨by decide +kernel, by decide +kernel⟩, List.mem_of_getElem? (i := 989) (by decide +kernel), List.mem_of_getElem? (i := 1276) (by decide +kernel), List.mem_of_getElem? (i := 1277) (by decide +kernel)⟩
theorem lw_p58 : lw_okq (⟨"LastAskedModel", "readPart", "(Ljava/lang/String;II)I"⟩, 37) := ⟨⟨by decide +kernel, by decide +kernel⟩, List.mem_of_getElem? (i := 989) (by decide +kernel), List.mem_of_getElem? (i := 1281) (by decide +kernel), List.mem_of_getElem? (i := 1282) (by decide +kernel)⟩
theorem lw_p59 : lw_okq (⟨"LastAskedModel", "readPerson", "()V"⟩, 37) := ⟨⟨by decide +kernel, by decide +kernel⟩, List.mem_of_getElem? (i := 989) (by decide +kernel), List.mem_of_getElem? (i := 1290) (by decide +kernel), List.mem_of_getElem? (i := 1291) (by decide +kernel)⟩
theorem lw_p60 : lw_okq (⟨"LastAskedModel", "lineBegins", "(II)V"⟩, 37) := ⟨⟨by decide +kernel, by decide +kernel⟩, List.mem_of_getElem? (i := 989) (by decide +kernel), List.mem_of_getElem? (i := 1294) (by decide +kernel), List.mem_of_getElem? (i := 1295) (by decide +kernel)⟩
theorem lw_p61 : lw_okq (⟨"LastAskedModel", "isName", "()Z"⟩, 37) := ⟨⟨by decide +kernel, by decide +kernel⟩, List.mem_of_getElem? (i := 989) (by decide +kernel), List.mem_of_getElem? (i := 1298) (by decide +kernel), List.mem_of_getElem? (i := 1299) (by decide +kernel)⟩
theorem lw_p62 : lw_okq (⟨"LastAskedModel", "readNear", "()V"⟩, 37) := ⟨⟨by decide +kernel, by decide +kernel⟩, List.mem_of_getElem? (i := 989) (by decide +kernel), List.mem_of_getElem? (i := 1317) (by decide +kernel), List.mem_of_getElem? (i := 1318) (by decide +kernel)⟩
theorem lw_p63 : lw_okq (⟨"LastAskedModel", "personAtHand", "()I"⟩, 37) := ⟨⟨by decide +kernel, by decide +kernel⟩, List.mem_of_getElem? (i := 989) (by decide +kernel), List.mem_of_getElem? (i := 1321) (by decide +kernel), List.mem_of_getElem? (i := 1322) (by decide +kernel)⟩
def lw_privs_4 : List (MethodName × Nat) := [(⟨"LastAsked", "askTrouble", "(II)I"⟩, 10), (⟨"java/lang/Throwable", "fillInStackTrace", "(I)Ljava/lang/Throwable;"⟩, 6), (⟨"LastAskedModel", "refused", "(I)I"⟩, 37), (⟨"LastAskedModel", "goesOn", "()V"⟩, 37), (⟨"LastAskedModel", "byteAt", "(I)I"⟩, 37), (⟨"LastAskedModel", "readAll", "()V"⟩, 37), (⟨"LastAskedModel", "readLine", "()V"⟩, 37), (⟨"LastAskedModel", "isWord", "(Ljava/lang/String;)Z"⟩, 37), (⟨"LastAskedModel", "readCity", "()V"⟩, 37), (⟨"LastAskedModel", "flaw", "(I)V"⟩, 37), (⟨"LastAskedModel", "readPart", "(Ljava/lang/String;II)I"⟩, 37), (⟨"LastAskedModel", "readPerson", "()V"⟩, 37), (⟨"LastAskedModel", "lineBegins", "(II)V"⟩, 37), (⟨"LastAskedModel", "isName", "()Z"⟩, 37), (⟨"LastAskedModel", "readNear", "()V"⟩, 37), (⟨"LastAskedModel", "personAtHand", "()I"⟩, 37)]
theorem lw_r4 : ∀ q ∈ lw_privs_4, lw_okq q := List.forall_mem_cons.mpr ⟨lw_p48, List.forall_mem_cons.mpr ⟨lw_p49, List.forall_mem_cons.mpr ⟨lw_p50, List.forall_mem_cons.mpr ⟨lw_p51, List.forall_mem_cons.mpr ⟨lw_p52, List.forall_mem_cons.mpr ⟨lw_p53, List.forall_mem_cons.mpr ⟨lw_p54, List.forall_mem_cons.mpr ⟨lw_p55, List.forall_mem_cons.mpr ⟨lw_p56, List.forall_mem_cons.mpr ⟨lw_p57, List.forall_mem_cons.mpr ⟨lw_p58, List.forall_mem_cons.mpr ⟨lw_p59, List.forall_mem_cons.mpr ⟨lw_p60, List.forall_mem_cons.mpr ⟨lw_p61, List.forall_mem_cons.mpr ⟨lw_p62, List.forall_mem_cons.mpr ⟨lw_p63, fun _ h => absurd h List.not_mem_nil⟩⟩⟩⟩⟩⟩⟩⟩⟩⟩⟩⟩⟩⟩⟩⟩
theorem lw_p64 : lw_okq (⟨"LastAskedModel", "readAsked", "()V"⟩, 37) := ⟨⟨by decide +kernel, by decide +kernel⟩, List.mem_of_getElem? (i := 989) (by decide +kernel), List.mem_of_getElem? (i := 1328) (by decide +kernel), List.mem_of_getElem? (i := 1329) (by decide +kernel)⟩
theorem lw_p65 : lw_okq (⟨"LastAskedModel", "readPair", "()I"⟩, 37) := ⟨⟨by decide +kernel, by decide +kernel⟩, List.mem_of_getElem? (i := 989) (by decide +kernel), List.mem_of_getElem? (i := 1332) (by decide +kernel), List.mem_of_getElem? (i := 1333) (by decide +kernel)⟩
theorem lw_p66 : lw_okq (⟨"LastAskedModel", "readHeard", "()V"⟩, 37) := ⟨⟨by decide +kernel, by decide +kernel⟩, List.mem_of_getElem? (i := 989) (by decide +kernel), List.mem_of_getElem? (i := 1342) (by decide +kernel), List.mem_of_getElem? (i := 1343) (by decide +kernel)⟩
theorem lw_p67 : lw_okq (⟨"LastAskedModel", "readWent", "()V"⟩, 37) := ⟨⟨by decide +kernel, by decide +kernel⟩, List.mem_of_getElem? (i := 989) (by decide +kernel), List.mem_of_getElem? (i := 1347) (by decide +kernel), List.mem_of_getElem? (i := 1348) (by decide +kernel)⟩
theorem lw_p68 : lw_okq (⟨"LastAskedModel", "eatsSemicolon", "()Z"⟩, 37) := ⟨⟨by decide +kernel, by decide +kernel⟩, List.mem_of_getElem? (i := 989) (by decide +kernel), List.mem_of_getElem? (i := 1351) (by decide +kernel), List.mem_of_getElem? (i := 1352) (by decide +kernel)⟩
theorem lw_p69 : lw_okq (⟨"LastAskedModel", "asTold", "()V"⟩, 37) := ⟨⟨by decide +kernel, by decide +kernel⟩, List.mem_of_getElem? (i := 989) (by decide +kernel), List.mem_of_getElem? (i := 1355) (by decide +kernel), List.mem_of_getElem? (i := 1356) (by decide +kernel)⟩
theorem lw_p70 : lw_okq (⟨"LastAskedModel", "good", "(I)I"⟩, 37) := ⟨⟨by decide +kernel, by decide +kernel⟩, List.mem_of_getElem? (i := 989) (by decide +kernel), List.mem_of_getElem? (i := 1359) (by decide +kernel), List.mem_of_getElem? (i := 1360) (by decide +kernel)⟩
theorem lw_p71 : lw_okq (⟨"LastAskedModel", "isPerson", "(I)Z"⟩, 37) := ⟨⟨by decide +kernel, by decide +kernel⟩, List.mem_of_getElem? (i := 989) (by decide +kernel), List.mem_of_getElem? (i := 1375) (by decide +kernel), List.mem_of_getElem? (i := 1376) (by decide +kernel)⟩
theorem lw_p72 : lw_okq (⟨"LastAskedModel", "near", "(I)I"⟩, 37) := ⟨⟨by decide +kernel, by decide +kernel⟩, List.mem_of_getElem? (i := 989) (by decide +kernel), List.mem_of_getElem? (i := 1379) (by decide +kernel), List.mem_of_getElem? (i := 1380) (by decide +kernel)⟩
theorem lw_p73 : lw_okq (⟨"LastAskedModel", "canAsk", "(I)I"⟩, 37) := ⟨⟨by decide +kernel, by decide +kernel⟩, List.mem_of_getElem? (i := 989) (by decide +kernel), List.mem_of_getElem? (i := 1383) (by decide +kernel), List.mem_of_getElem? (i := 1384) (by decide +kernel)⟩
theorem lw_p74 : lw_okq (⟨"LastAskedModel", "canBeAsked", "(I)I"⟩, 37) := ⟨⟨by decide +kernel, by decide +kernel⟩, List.mem_of_getElem? (i := 989) (by decide +kernel), List.mem_of_getElem? (i := 1387) (by decide +kernel), List.mem_of_getElem? (i := 1388) (by decide +kernel)⟩
theorem lw_p75 : lw_okq (⟨"LastAskedModel", "areTwo", "(II)Z"⟩, 37) := ⟨⟨by decide +kernel, by decide +kernel⟩, List.mem_of_getElem? (i := 989) (by decide +kernel), List.mem_of_getElem? (i := 1395) (by decide +kernel), List.mem_of_getElem? (i := 1396) (by decide +kernel)⟩
theorem lw_p76 : lw_okq (⟨"LastAskedModel", "refusesLiving", "(I)I"⟩, 37) := ⟨⟨by decide +kernel, by decide +kernel⟩, List.mem_of_getElem? (i := 989) (by decide +kernel), List.mem_of_getElem? (i := 1403) (by decide +kernel), List.mem_of_getElem? (i := 1404) (by decide +kernel)⟩
theorem lw_p77 : lw_okq (⟨"LastAskedModel", "works", "()V"⟩, 37) := ⟨⟨by decide +kernel, by decide +kernel⟩, List.mem_of_getElem? (i := 989) (by decide +kernel), List.mem_of_getElem? (i := 1407) (by decide +kernel), List.mem_of_getElem? (i := 1408) (by decide +kernel)⟩
theorem lw_p78 : lw_okq (⟨"LastAskedModel", "heirOf", "(I)I"⟩, 37) := ⟨⟨by decide +kernel, by decide +kernel⟩, List.mem_of_getElem? (i := 989) (by decide +kernel), List.mem_of_getElem? (i := 1411) (by decide +kernel), List.mem_of_getElem? (i := 1412) (by decide +kernel)⟩
theorem lw_p79 : lw_okq (⟨"LastAskedModel", "isLiving", "(I)Z"⟩, 37) := ⟨⟨by decide +kernel, by decide +kernel⟩, List.mem_of_getElem? (i := 989) (by decide +kernel), List.mem_of_getElem? (i := 1415) (by decide +kernel), List.mem_of_getElem? (i := 1416) (by decide +kernel)⟩
def lw_privs_5 : List (MethodName × Nat) := [(⟨"LastAskedModel", "readAsked", "()V"⟩, 37), (⟨"LastAskedModel", "readPair", "()I"⟩, 37), (⟨"LastAskedModel", "readHeard", "()V"⟩, 37), (⟨"LastAskedModel", "readWent", "()V"⟩, 37), (⟨"LastAskedModel", "eatsSemicolon", "()Z"⟩, 37), (⟨"LastAskedModel", "asTold", "()V"⟩, 37), (⟨"LastAskedModel", "good", "(I)I"⟩, 37), (⟨"LastAskedModel", "isPerson", "(I)Z"⟩, 37), (⟨"LastAskedModel", "near", "(I)I"⟩, 37), (⟨"LastAskedModel", "canAsk", "(I)I"⟩, 37), (⟨"LastAskedModel", "canBeAsked", "(I)I"⟩, 37), (⟨"LastAskedModel", "areTwo", "(II)Z"⟩, 37), (⟨"LastAskedModel", "refusesLiving", "(I)I"⟩, 37), (⟨"LastAskedModel", "works", "()V"⟩, 37), (⟨"LastAskedModel", "heirOf", "(I)I"⟩, 37), (⟨"LastAskedModel", "isLiving", "(I)Z"⟩, 37)]
theorem lw_r5 : ∀ q ∈ lw_privs_5, lw_okq q := List.forall_mem_cons.mpr ⟨lw_p64, List.forall_mem_cons.mpr ⟨lw_p65, List.forall_mem_cons.mpr ⟨lw_p66, List.forall_mem_cons.mpr ⟨lw_p67, List.forall_mem_cons.mpr ⟨lw_p68, List.forall_mem_cons.mpr ⟨lw_p69, List.forall_mem_cons.mpr ⟨lw_p70, List.forall_mem_cons.mpr ⟨lw_p71, List.forall_mem_cons.mpr ⟨lw_p72, List.forall_mem_cons.mpr ⟨lw_p73, List.forall_mem_cons.mpr ⟨lw_p74, List.forall_mem_cons.mpr ⟨lw_p75, List.forall_mem_cons.mpr ⟨lw_p76, List.forall_mem_cons.mpr ⟨lw_p77, List.forall_mem_cons.mpr ⟨lw_p78, List.forall_mem_cons.mpr ⟨lw_p79, fun _ h => absurd h List.not_mem_nil⟩⟩⟩⟩⟩⟩⟩⟩⟩⟩⟩⟩⟩⟩⟩⟩
theorem lw_p80 : lw_okq (⟨"LastAskedModel", "asked", "(II)I"⟩, 37) := ⟨⟨by decide +kernel, by decide +kernel⟩, List.mem_of_getElem? (i := 989) (by decide +kernel), List.mem_of_getElem? (i := 1419) (by decide +kernel), List.mem_of_getElem? (i := 1420) (by decide +kernel)⟩
theorem lw_p81 : lw_okq (⟨"LastAskedModel", "worksWithHeirs", "()V"⟩, 37) := ⟨⟨by decide +kernel, by decide +kernel⟩, List.mem_of_getElem? (i := 989) (by decide +kernel), List.mem_of_getElem? (i := 1427) (by decide +kernel), List.mem_of_getElem? (i := 1428) (by decide +kernel)⟩
theorem lw_p82 : lw_okq (⟨"LastAskedModel", "heirs", "()V"⟩, 37) := ⟨⟨by decide +kernel, by decide +kernel⟩, List.mem_of_getElem? (i := 989) (by decide +kernel), List.mem_of_getElem? (i := 1431) (by decide +kernel), List.mem_of_getElem? (i := 1432) (by decide +kernel)⟩
theorem lw_p83 : lw_okq (⟨"LastAskedModel", "inheritsOf", "(I)I"⟩, 37) := ⟨⟨by decide +kernel, by decide +kernel⟩, List.mem_of_getElem? (i := 989) (by decide +kernel), List.mem_of_getElem? (i := 1435) (by decide +kernel), List.mem_of_getElem? (i := 1436) (by decide +kernel)⟩
theorem lw_p84 : lw_okq (⟨"LastAskedModel", "dying", "(I)V"⟩, 37) := ⟨⟨by decide +kernel, by decide +kernel⟩, List.mem_of_getElem? (i := 989) (by decide +kernel), List.mem_of_getElem? (i := 1443) (by decide +kernel), List.mem_of_getElem? (i := 1444) (by decide +kernel)⟩
theorem lw_p85 : lw_okq (⟨"LastAskedModel", "goes", "(II)I"⟩, 37) := ⟨⟨by decide +kernel, by decide +kernel⟩, List.mem_of_getElem? (i := 989) (by decide +kernel), List.mem_of_getElem? (i := 1447) (by decide +kernel), List.mem_of_getElem? (i := 1448) (by decide +kernel)⟩
theorem lw_p86 : lw_okq (⟨"LastAskedModel", "canDie", "(I)Z"⟩, 37) := ⟨⟨by decide +kernel, by decide +kernel⟩, List.mem_of_getElem? (i := 989) (by decide +kernel), List.mem_of_getElem? (i := 1463) (by decide +kernel), List.mem_of_getElem? (i := 1464) (by decide +kernel)⟩
theorem lw_p87 : lw_okq (⟨"LastAskedModel", "meanOf", "(I)J"⟩, 37) := ⟨⟨by decide +kernel, by decide +kernel⟩, List.mem_of_getElem? (i := 989) (by decide +kernel), List.mem_of_getElem? (i := 1494) (by decide +kernel), List.mem_of_getElem? (i := 1495) (by decide +kernel)⟩
theorem lw_p88 : lw_okq (⟨"LastAskedModel", "wholeOf", "()V"⟩, 37) := ⟨⟨by decide +kernel, by decide +kernel⟩, List.mem_of_getElem? (i := 989) (by decide +kernel), List.mem_of_getElem? (i := 1498) (by decide +kernel), List.mem_of_getElem? (i := 1499) (by decide +kernel)⟩
theorem lw_p89 : lw_okq (⟨"LastAskedModel", "partOf", "(I)J"⟩, 37) := ⟨⟨by decide +kernel, by decide +kernel⟩, List.mem_of_getElem? (i := 989) (by decide +kernel), List.mem_of_getElem? (i := 1503) (by decide +kernel), List.mem_of_getElem? (i := 1504) (by decide +kernel)⟩
theorem lw_p90 : lw_okq (⟨"LastAskedModel", "fraction", "(JJZ)J"⟩, 37) := ⟨⟨by decide +kernel, by decide +kernel⟩, List.mem_of_getElem? (i := 989) (by decide +kernel), List.mem_of_getElem? (i := 1507) (by decide +kernel), List.mem_of_getElem? (i := 1508) (by decide +kernel)⟩
theorem lw_p91 : lw_okq (⟨"LastAskedModel", "refusesNumber", "(IIII)I"⟩, 37) := ⟨⟨by decide +kernel, by decide +kernel⟩, List.mem_of_getElem? (i := 989) (by decide +kernel), List.mem_of_getElem? (i := 1530) (by decide +kernel), List.mem_of_getElem? (i := 1531) (by decide +kernel)⟩
theorem lw_p92 : lw_okq (⟨"LastAskedModel", "bestRow", "(II)I"⟩, 37) := ⟨⟨by decide +kernel, by decide +kernel⟩, List.mem_of_getElem? (i := 989) (by decide +kernel), List.mem_of_getElem? (i := 1534) (by decide +kernel), List.mem_of_getElem? (i := 1535) (by decide +kernel)⟩
theorem lw_p93 : lw_okq (⟨"LastAskedModel", "asks", "(II)V"⟩, 37) := ⟨⟨by decide +kernel, by decide +kernel⟩, List.mem_of_getElem? (i := 989) (by decide +kernel), List.mem_of_getElem? (i := 1539) (by decide +kernel), List.mem_of_getElem? (i := 1540) (by decide +kernel)⟩
theorem lw_p94 : lw_okq (⟨"LastAskedModel", "bestTour", "(II)I"⟩, 37) := ⟨⟨by decide +kernel, by decide +kernel⟩, List.mem_of_getElem? (i := 989) (by decide +kernel), List.mem_of_getElem? (i := 1551) (by decide +kernel), List.mem_of_getElem? (i := 1552) (by decide +kernel)⟩
theorem lw_p95 : lw_okq (⟨"LastAskedModel", "hoursBy", "(III)I"⟩, 37) := ⟨⟨by decide +kernel, by decide +kernel⟩, List.mem_of_getElem? (i := 989) (by decide +kernel), List.mem_of_getElem? (i := 1555) (by decide +kernel), List.mem_of_getElem? (i := 1556) (by decide +kernel)⟩
def lw_privs_6 : List (MethodName × Nat) := [(⟨"LastAskedModel", "asked", "(II)I"⟩, 37), (⟨"LastAskedModel", "worksWithHeirs", "()V"⟩, 37), (⟨"LastAskedModel", "heirs", "()V"⟩, 37), (⟨"LastAskedModel", "inheritsOf", "(I)I"⟩, 37), (⟨"LastAskedModel", "dying", "(I)V"⟩, 37), (⟨"LastAskedModel", "goes", "(II)I"⟩, 37), (⟨"LastAskedModel", "canDie", "(I)Z"⟩, 37), (⟨"LastAskedModel", "meanOf", "(I)J"⟩, 37), (⟨"LastAskedModel", "wholeOf", "()V"⟩, 37), (⟨"LastAskedModel", "partOf", "(I)J"⟩, 37), (⟨"LastAskedModel", "fraction", "(JJZ)J"⟩, 37), (⟨"LastAskedModel", "refusesNumber", "(IIII)I"⟩, 37), (⟨"LastAskedModel", "bestRow", "(II)I"⟩, 37), (⟨"LastAskedModel", "asks", "(II)V"⟩, 37), (⟨"LastAskedModel", "bestTour", "(II)I"⟩, 37), (⟨"LastAskedModel", "hoursBy", "(III)I"⟩, 37)]
theorem lw_r6 : ∀ q ∈ lw_privs_6, lw_okq q := List.forall_mem_cons.mpr ⟨lw_p80, List.forall_mem_cons.mpr ⟨lw_p81, List.forall_mem_cons.mpr ⟨lw_p82, List.forall_mem_cons.mpr ⟨lw_p83, List.forall_mem_cons.mpr ⟨lw_p84, List.forall_mem_cons.mpr ⟨lw_p85, List.forall_mem_cons.mpr ⟨lw_p86, List.forall_mem_cons.mpr ⟨lw_p87, List.forall_mem_cons.mpr ⟨lw_p88, List.forall_mem_cons.mpr ⟨lw_p89, List.forall_mem_cons.mpr ⟨lw_p90, List.forall_mem_cons.mpr ⟨lw_p91, List.forall_mem_cons.mpr ⟨lw_p92, List.forall_mem_cons.mpr ⟨lw_p93, List.forall_mem_cons.mpr ⟨lw_p94, List.forall_mem_cons.mpr ⟨lw_p95, fun _ h => absurd h List.not_mem_nil⟩⟩⟩⟩⟩⟩⟩⟩⟩⟩⟩⟩⟩⟩⟩⟩
theorem lw_p96 : lw_okq (⟨"LastAskedModel", "spreads", "(II)V"⟩, 37) := ⟨⟨by decide +kernel, by decide +kernel⟩, List.mem_of_getElem? (i := 989) (by decide +kernel), List.mem_of_getElem? (i := 1559) (by decide +kernel), List.mem_of_getElem? (i := 1560) (by decide +kernel)⟩
theorem lw_p97 : lw_okq (⟨"LastAskedModel", "fitting", "(II)Z"⟩, 37) := ⟨⟨by decide +kernel, by decide +kernel⟩, List.mem_of_getElem? (i := 989) (by decide +kernel), List.mem_of_getElem? (i := 1583) (by decide +kernel), List.mem_of_getElem? (i := 1584) (by decide +kernel)⟩
theorem lw_p98 : lw_okq (⟨"LastAskedModel", "many", "(I)I"⟩, 37) := ⟨⟨by decide +kernel, by decide +kernel⟩, List.mem_of_getElem? (i := 989) (by decide +kernel), List.mem_of_getElem? (i := 1587) (by decide +kernel), List.mem_of_getElem? (i := 1588) (by decide +kernel)⟩
theorem lw_p99 : lw_okq (⟨"LastAskedModel", "low", "(I)I"⟩, 37) := ⟨⟨by decide +kernel, by decide +kernel⟩, List.mem_of_getElem? (i := 989) (by decide +kernel), List.mem_of_getElem? (i := 1591) (by decide +kernel), List.mem_of_getElem? (i := 1592) (by decide +kernel)⟩
theorem lw_p100 : lw_okq (⟨"LastAskedModel", "wrong", "()I"⟩, 37) := ⟨⟨by decide +kernel, by decide +kernel⟩, List.mem_of_getElem? (i := 989) (by decide +kernel), List.mem_of_getElem? (i := 1595) (by decide +kernel), List.mem_of_getElem? (i := 1596) (by decide +kernel)⟩
theorem lw_p101 : lw_okq (⟨"LastAskedModel", "looks", "()I"⟩, 37) := ⟨⟨by decide +kernel, by decide +kernel⟩, List.mem_of_getElem? (i := 989) (by decide +kernel), List.mem_of_getElem? (i := 1611) (by decide +kernel), List.mem_of_getElem? (i := 1612) (by decide +kernel)⟩
theorem lw_p102 : lw_okq (⟨"LastAskedModel", "refusesShame", "(I)I"⟩, 37) := ⟨⟨by decide +kernel, by decide +kernel⟩, List.mem_of_getElem? (i := 989) (by decide +kernel), List.mem_of_getElem? (i := 1627) (by decide +kernel), List.mem_of_getElem? (i := 1628) (by decide +kernel)⟩
theorem lw_p103 : lw_okq (⟨"LastAskedModel", "lost", "(I)I"⟩, 37) := ⟨⟨by decide +kernel, by decide +kernel⟩, List.mem_of_getElem? (i := 989) (by decide +kernel), List.mem_of_getElem? (i := 1631) (by decide +kernel), List.mem_of_getElem? (i := 1632) (by decide +kernel)⟩
theorem lw_p104 : lw_okq (⟨"LastAskedModel", "refusesSeed", "(ZII)I"⟩, 37) := ⟨⟨by decide +kernel, by decide +kernel⟩, List.mem_of_getElem? (i := 989) (by decide +kernel), List.mem_of_getElem? (i := 1656) (by decide +kernel), List.mem_of_getElem? (i := 1657) (by decide +kernel)⟩
theorem lw_p105 : lw_okq (⟨"LastAskedModel", "nightsAll", "(II)V"⟩, 37) := ⟨⟨by decide +kernel, by decide +kernel⟩, List.mem_of_getElem? (i := 989) (by decide +kernel), List.mem_of_getElem? (i := 1661) (by decide +kernel), List.mem_of_getElem? (i := 1662) (by decide +kernel)⟩
theorem lw_p106 : lw_okq (⟨"LastAskedModel", "aNight", "(Z)I"⟩, 37) := ⟨⟨by decide +kernel, by decide +kernel⟩, List.mem_of_getElem? (i := 989) (by decide +kernel), List.mem_of_getElem? (i := 1665) (by decide +kernel), List.mem_of_getElem? (i := 1666) (by decide +kernel)⟩
theorem lw_p107 : lw_okq (⟨"LastAskedModel", "dieAll", "(IZ)V"⟩, 37) := ⟨⟨by decide +kernel, by decide +kernel⟩, List.mem_of_getElem? (i := 989) (by decide +kernel), List.mem_of_getElem? (i := 1672) (by decide +kernel), List.mem_of_getElem? (i := 1673) (by decide +kernel)⟩
theorem lw_p108 : lw_okq (⟨"LastAskedModel", "remembers", "()V"⟩, 37) := ⟨⟨by decide +kernel, by decide +kernel⟩, List.mem_of_getElem? (i := 989) (by decide +kernel), List.mem_of_getElem? (i := 1688) (by decide +kernel), List.mem_of_getElem? (i := 1689) (by decide +kernel)⟩
theorem lw_p109 : lw_okq (⟨"LastAskedModel", "stays", "()V"⟩, 37) := ⟨⟨by decide +kernel, by decide +kernel⟩, List.mem_of_getElem? (i := 989) (by decide +kernel), List.mem_of_getElem? (i := 1692) (by decide +kernel), List.mem_of_getElem? (i := 1693) (by decide +kernel)⟩
theorem lw_p110 : lw_okq (⟨"LastAskedModel", "denied", "(I)Z"⟩, 37) := ⟨⟨by decide +kernel, by decide +kernel⟩, List.mem_of_getElem? (i := 989) (by decide +kernel), List.mem_of_getElem? (i := 1708) (by decide +kernel), List.mem_of_getElem? (i := 1709) (by decide +kernel)⟩
theorem lw_p111 : lw_okq (⟨"LastAskedModel", "granted", "()Z"⟩, 37) := ⟨⟨by decide +kernel, by decide +kernel⟩, List.mem_of_getElem? (i := 989) (by decide +kernel), List.mem_of_getElem? (i := 1712) (by decide +kernel), List.mem_of_getElem? (i := 1713) (by decide +kernel)⟩
def lw_privs_7 : List (MethodName × Nat) := [(⟨"LastAskedModel", "spreads", "(II)V"⟩, 37), (⟨"LastAskedModel", "fitting", "(II)Z"⟩, 37), (⟨"LastAskedModel", "many", "(I)I"⟩, 37), (⟨"LastAskedModel", "low", "(I)I"⟩, 37), (⟨"LastAskedModel", "wrong", "()I"⟩, 37), (⟨"LastAskedModel", "looks", "()I"⟩, 37), (⟨"LastAskedModel", "refusesShame", "(I)I"⟩, 37), (⟨"LastAskedModel", "lost", "(I)I"⟩, 37), (⟨"LastAskedModel", "refusesSeed", "(ZII)I"⟩, 37), (⟨"LastAskedModel", "nightsAll", "(II)V"⟩, 37), (⟨"LastAskedModel", "aNight", "(Z)I"⟩, 37), (⟨"LastAskedModel", "dieAll", "(IZ)V"⟩, 37), (⟨"LastAskedModel", "remembers", "()V"⟩, 37), (⟨"LastAskedModel", "stays", "()V"⟩, 37), (⟨"LastAskedModel", "denied", "(I)Z"⟩, 37), (⟨"LastAskedModel", "granted", "()Z"⟩, 37)]
theorem lw_r7 : ∀ q ∈ lw_privs_7, lw_okq q := List.forall_mem_cons.mpr ⟨lw_p96, List.forall_mem_cons.mpr ⟨lw_p97, List.forall_mem_cons.mpr ⟨lw_p98, List.forall_mem_cons.mpr ⟨lw_p99, List.forall_mem_cons.mpr ⟨lw_p100, List.forall_mem_cons.mpr ⟨lw_p101, List.forall_mem_cons.mpr ⟨lw_p102, List.forall_mem_cons.mpr ⟨lw_p103, List.forall_mem_cons.mpr ⟨lw_p104, List.forall_mem_cons.mpr ⟨lw_p105, List.forall_mem_cons.mpr ⟨lw_p106, List.forall_mem_cons.mpr ⟨lw_p107, List.forall_mem_cons.mpr ⟨lw_p108, List.forall_mem_cons.mpr ⟨lw_p109, List.forall_mem_cons.mpr ⟨lw_p110, List.forall_mem_cons.mpr ⟨lw_p111, fun _ h => absurd h List.not_mem_nil⟩⟩⟩⟩⟩⟩⟩⟩⟩⟩⟩⟩⟩⟩⟩⟩
def lw_privs : List (MethodName × Nat) := lw_privs_1 ++ (lw_privs_2 ++ (lw_privs_3 ++ (lw_privs_4 ++ (lw_privs_5 ++ (lw_privs_6 ++ (lw_privs_7))))))
def lw_tbl : List Cond := k2_sels lw_privs ++ tables_1
theorem lw_privs_ok : ∀ q ∈ lw_privs, lw_okq q := by
  show ∀ q ∈ lw_privs_1 ++ (lw_privs_2 ++ (lw_privs_3 ++ (lw_privs_4 ++ (lw_privs_5 ++ (lw_privs_6 ++ (lw_privs_7)))))), lw_okq q
  exact List.forall_mem_append.mpr ⟨lw_r1, List.forall_mem_append.mpr ⟨lw_r2, List.forall_mem_append.mpr ⟨lw_r3, List.forall_mem_append.mpr ⟨lw_r4, List.forall_mem_append.mpr ⟨lw_r5, List.forall_mem_append.mpr ⟨lw_r6, lw_r7⟩⟩⟩⟩⟩⟩
theorem x_mem {big : List Cond} (ws : List Cond) (ps : List Nat) (h : ws = ps.filterMap (fun i => big[i]?)) : ∀ w ∈ ws, w ∈ big := by
  intro w hw
  rw [h] at hw
  obtain ⟨i, -, hi⟩ := List.mem_filterMap.mp hw
  exact List.mem_of_getElem? hi
def RX0 : String := "LastAsked$City"
def TX0 : u_T := fun k => match k with
  | 0 => ("LastAsked$City", "hour", "I", false)
  | 1 => ("LastAsked$City", "gives", "I", false)
  | 2 => ("LastAsked$City", "people", "I", false)
  | 3 => ("LastAsked$City", "nears", "I", false)
  | 4 => ("LastAsked$City", "askeds", "I", false)
  | 5 => ("LastAsked$City", "heards", "I", false)
  | 6 => ("LastAsked$City", "wents", "I", false)
  | 7 => ("LastAsked$City", "kind", "[I", true)
  | 8 => ("LastAsked$City", "has", "[I", true)
  | 9 => ("LastAsked$City", "chance", "[I", true)
  | 10 => ("LastAsked$City", "near", "[I", true)
  | 11 => ("LastAsked$City", "wentTo", "[I", true)
  | 12 => ("LastAsked$City", "register", "[I", true)
  | 13 => ("LastAsked$City", "way", "[I", true)
  | 14 => ("LastAsked$City", "heardPair", "[I", true)
  | 15 => ("LastAsked$City", "heardAt", "[I", true)
  | _ => ("LastAsked$City", "heardGive", "[I", true)
def tyX0 : Nat → FieldType := fun k => match k with
  | 0 => .int
  | 1 => .int
  | 2 => .int
  | 3 => .int
  | 4 => .int
  | 5 => .int
  | 6 => .int
  | 7 => .array .int
  | 8 => .array .int
  | 9 => .array .int
  | 10 => .array .int
  | 11 => .array .int
  | 12 => .array .int
  | 13 => .array .int
  | 14 => .array .int
  | 15 => .array .int
  | _ => .array .int
abbrev wsX00 : List Cond := u_ws RX0 TX0 17
theorem nmX0 : ∀ a, a < 17 → ∀ b, b < 17 → a ≠ b → (TX0 a).2.1 ≠ (TX0 b).2.1 := by decide +kernel
theorem tyX0_ok : ∀ k, k < 17 → parseFieldDescriptor (TX0 k).2.2.1 = some (tyX0 k) := by decide +kernel
def RX1 : String := "LastAsked$Fits"
def TX1 : u_T := fun k => match k with
  | 0 => ("LastAsked$Fits", "codes", "I", false)
  | 1 => ("LastAsked$Fits", "first", "[I", true)
  | 2 => ("LastAsked$Fits", "span", "[I", true)
  | 3 => ("LastAsked$Fits", "weight", "[I", true)
  | 4 => ("LastAsked$Fits", "register", "[I", true)
  | _ => ("LastAsked$Fits", "tally", "[I", true)
def tyX1 : Nat → FieldType := fun k => match k with
  | 0 => .int
  | 1 => .array .int
  | 2 => .array .int
  | 3 => .array .int
  | 4 => .array .int
  | _ => .array .int
abbrev wsX10 : List Cond := u_ws RX1 TX1 6
theorem nmX1 : ∀ a, a < 6 → ∀ b, b < 6 → a ≠ b → (TX1 a).2.1 ≠ (TX1 b).2.1 := by decide +kernel
theorem tyX1_ok : ∀ k, k < 6 → parseFieldDescriptor (TX1 k).2.2.1 = some (tyX1 k) := by decide +kernel
def RX2 : String := "LastAsked$Past"
def TX2 : u_T := fun k => match k with
  | 0 => ("LastAsked$Past", "acts", "I", false)
  | 1 => ("LastAsked$Past", "images", "I", false)
  | 2 => ("LastAsked$Past", "next", "I", false)
  | 3 => ("LastAsked$Past", "ahead", "[LLastAsked$State;", true)
  | _ => ("LastAsked$Past", "seen", "[LLastAsked$State;", true)
def tyX2 : Nat → FieldType := fun k => match k with
  | 0 => .int
  | 1 => .int
  | 2 => .int
  | 3 => .array (.object "LastAsked$State")
  | _ => .array (.object "LastAsked$State")
abbrev wsX20 : List Cond := u_ws RX2 TX2 5
theorem nmX2 : ∀ a, a < 5 → ∀ b, b < 5 → a ≠ b → (TX2 a).2.1 ≠ (TX2 b).2.1 := by decide +kernel
theorem tyX2_ok : ∀ k, k < 5 → parseFieldDescriptor (TX2 k).2.2.1 = some (tyX2 k) := by decide +kernel
def RX3 : String := "LastAsked$Reader"
def TX3 : u_T := fun k => match k with
  | 0 => ("LastAsked$Reader", "fed", "I", false)
  | 1 => ("LastAsked$Reader", "place", "I", false)
  | 2 => ("LastAsked$Reader", "city", "LLastAsked$City;", true)
  | 3 => ("LastAsked$Reader", "found", "I", false)
  | 4 => ("LastAsked$Reader", "text", "[B", true)
  | 5 => ("LastAsked$Reader", "length", "I", false)
  | 6 => ("LastAsked$Reader", "sort", "I", false)
  | 7 => ("LastAsked$Reader", "start", "I", false)
  | 8 => ("LastAsked$Reader", "end", "I", false)
  | 9 => ("LastAsked$Reader", "value", "I", false)
  | 10 => ("LastAsked$Reader", "word", "J", false)
  | 11 => ("LastAsked$Reader", "begun", "Z", false)
  | _ => ("LastAsked$Reader", "names", "[J", true)
def tyX3 : Nat → FieldType := fun k => match k with
  | 0 => .int
  | 1 => .int
  | 2 => .object "LastAsked$City"
  | 3 => .int
  | 4 => .array .byte
  | 5 => .int
  | 6 => .int
  | 7 => .int
  | 8 => .int
  | 9 => .int
  | 10 => .long
  | 11 => .boolean
  | _ => .array .long
abbrev wsX30 : List Cond := u_ws RX3 TX3 13
theorem nmX3 : ∀ a, a < 13 → ∀ b, b < 13 → a ≠ b → (TX3 a).2.1 ≠ (TX3 b).2.1 := by decide +kernel
theorem tyX3_ok : ∀ k, k < 13 → parseFieldDescriptor (TX3 k).2.2.1 = some (tyX3 k) := by decide +kernel
def RX4 : String := "LastAsked$State"
def TX4 : u_T := fun k => match k with
  | 0 => ("LastAsked$State", "hour", "I", false)
  | 1 => ("LastAsked$State", "seed", "I", false)
  | 2 => ("LastAsked$State", "nights", "I", false)
  | 3 => ("LastAsked$State", "cat", "I", false)
  | 4 => ("LastAsked$State", "living", "I", false)
  | 5 => ("LastAsked$State", "has", "[I", true)
  | _ => ("LastAsked$State", "register", "[I", true)
def tyX4 : Nat → FieldType := fun k => match k with
  | 0 => .int
  | 1 => .int
  | 2 => .int
  | 3 => .int
  | 4 => .int
  | 5 => .array .int
  | _ => .array .int
abbrev wsX40 : List Cond := u_ws RX4 TX4 7
theorem nmX4 : ∀ a, a < 7 → ∀ b, b < 7 → a ≠ b → (TX4 a).2.1 ≠ (TX4 b).2.1 := by decide +kernel
theorem tyX4_ok : ∀ k, k < 7 → parseFieldDescriptor (TX4 k).2.2.1 = some (tyX4 k) := by decide +kernel
def RX5 : String := "LastAsked$Walks"
def TX5 : u_T := fun k => match k with
  | _ => ("LastAsked$Walks", "least", "[I", true)
def tyX5 : Nat → FieldType := fun k => match k with
  | _ => .array .int
abbrev wsX50 : List Cond := u_ws RX5 TX5 1
theorem nmX5 : ∀ a, a < 1 → ∀ b, b < 1 → a ≠ b → (TX5 a).2.1 ≠ (TX5 b).2.1 := by decide +kernel
theorem tyX5_ok : ∀ k, k < 1 → parseFieldDescriptor (TX5 k).2.2.1 = some (tyX5 k) := by decide +kernel
def RX6 : String := "LastAsked$Wills"
def TX6 : u_T := fun k => match k with
  | _ => ("LastAsked$Wills", "heirs", "[I", true)
def tyX6 : Nat → FieldType := fun k => match k with
  | _ => .array .int
abbrev wsX60 : List Cond := u_ws RX6 TX6 1
theorem nmX6 : ∀ a, a < 1 → ∀ b, b < 1 → a ≠ b → (TX6 a).2.1 ≠ (TX6 b).2.1 := by decide +kernel
theorem tyX6_ok : ∀ k, k < 1 → parseFieldDescriptor (TX6 k).2.2.1 = some (tyX6 k) := by decide +kernel
def RX7 : String := "LastAsked"
def TX7 : u_T := fun k => match k with
  | 0 => ("LastAsked", "tape", "LLastAsked$Reader;", true)
  | 1 => ("LastAsked", "told", "LLastAsked$City;", true)
  | 2 => ("LastAsked", "now", "LLastAsked$State;", true)
  | 3 => ("LastAsked", "then", "LLastAsked$State;", true)
  | 4 => ("LastAsked", "past", "LLastAsked$Past;", true)
  | 5 => ("LastAsked", "wills", "LLastAsked$Wills;", true)
  | 6 => ("LastAsked", "walks", "LLastAsked$Walks;", true)
  | 7 => ("LastAsked", "guesses", "LLastAsked$Fits;", true)
  | 8 => ("LastAsked", "refusal", "I", false)
  | _ => ("LastAsked", "lastFault", "I", false)
def tyX7 : Nat → FieldType := fun k => match k with
  | 0 => .object "LastAsked$Reader"
  | 1 => .object "LastAsked$City"
  | 2 => .object "LastAsked$State"
  | 3 => .object "LastAsked$State"
  | 4 => .object "LastAsked$Past"
  | 5 => .object "LastAsked$Wills"
  | 6 => .object "LastAsked$Walks"
  | 7 => .object "LastAsked$Fits"
  | 8 => .int
  | _ => .int
abbrev wsX70 : List Cond := u_ws RX7 TX7 10
theorem nmX7 : ∀ a, a < 10 → ∀ b, b < 10 → a ≠ b → (TX7 a).2.1 ≠ (TX7 b).2.1 := by decide +kernel
theorem tyX7_ok : ∀ k, k < 10 → parseFieldDescriptor (TX7 k).2.2.1 = some (tyX7 k) := by decide +kernel
def RX8 : String := "LastAskedModel$City"
def TX8 : u_T := fun k => match k with
  | 0 => ("LastAskedModel$City", "hour", "I", false)
  | 1 => ("LastAskedModel$City", "gives", "I", false)
  | 2 => ("LastAskedModel$City", "people", "I", false)
  | 3 => ("LastAskedModel$City", "nears", "I", false)
  | 4 => ("LastAskedModel$City", "askeds", "I", false)
  | 5 => ("LastAskedModel$City", "heards", "I", false)
  | 6 => ("LastAskedModel$City", "wents", "I", false)
  | 7 => ("LastAskedModel$City", "kind", "[I", true)
  | 8 => ("LastAskedModel$City", "has", "[I", true)
  | 9 => ("LastAskedModel$City", "dies", "[I", true)
  | 10 => ("LastAskedModel$City", "near", "[I", true)
  | 11 => ("LastAskedModel$City", "went", "[I", true)
  | 12 => ("LastAskedModel$City", "asked", "[I", true)
  | 13 => ("LastAskedModel$City", "by", "[I", true)
  | 14 => ("LastAskedModel$City", "of", "[I", true)
  | 15 => ("LastAskedModel$City", "give", "[I", true)
  | _ => ("LastAskedModel$City", "name", "[J", true)
def tyX8 : Nat → FieldType := fun k => match k with
  | 0 => .int
  | 1 => .int
  | 2 => .int
  | 3 => .int
  | 4 => .int
  | 5 => .int
  | 6 => .int
  | 7 => .array .int
  | 8 => .array .int
  | 9 => .array .int
  | 10 => .array .int
  | 11 => .array .int
  | 12 => .array .int
  | 13 => .array .int
  | 14 => .array .int
  | 15 => .array .int
  | _ => .array .long
abbrev wsX80 : List Cond := u_ws RX8 TX8 17
theorem nmX8 : ∀ a, a < 17 → ∀ b, b < 17 → a ≠ b → (TX8 a).2.1 ≠ (TX8 b).2.1 := by decide +kernel
theorem tyX8_ok : ∀ k, k < 17 → parseFieldDescriptor (TX8 k).2.2.1 = some (tyX8 k) := by decide +kernel
def RX9 : String := "LastAskedModel"
def TX9 : u_T := fun k => match k with
  | 0 => ("LastAskedModel", "thrown", "I", false)
  | 1 => ("LastAskedModel", "trouble", "I", false)
  | 2 => ("LastAskedModel", "where", "I", false)
  | 3 => ("LastAskedModel", "city", "LLastAskedModel$City;", false)
  | 4 => ("LastAskedModel", "read", "LLastAskedModel$City;", false)
  | 5 => ("LastAskedModel", "tape", "[B", true)
  | 6 => ("LastAskedModel", "taped", "I", false)
  | 7 => ("LastAskedModel", "size", "I", false)
  | 8 => ("LastAskedModel", "spot", "I", false)
  | 9 => ("LastAskedModel", "sort", "I", false)
  | 10 => ("LastAskedModel", "place", "I", false)
  | 11 => ("LastAskedModel", "number", "I", false)
  | 12 => ("LastAskedModel", "fault", "I", false)
  | 13 => ("LastAskedModel", "wrongAt", "I", false)
  | 14 => ("LastAskedModel", "word", "J", false)
  | 15 => ("LastAskedModel", "askedOf", "I", false)
  | 16 => ("LastAskedModel", "v", "[I", true)
  | 17 => ("LastAskedModel", "x", "[I", true)
  | 18 => ("LastAskedModel", "past", "[I", true)
  | 19 => ("LastAskedModel", "kept", "[I", true)
  | 20 => ("LastAskedModel", "acts", "I", false)
  | 21 => ("LastAskedModel", "images", "I", false)
  | 22 => ("LastAskedModel", "heir", "[I", true)
  | 23 => ("LastAskedModel", "then", "[I", true)
  | 24 => ("LastAskedModel", "catGets", "I", false)
  | 25 => ("LastAskedModel", "whole", "J", false)
  | 26 => ("LastAskedModel", "bestSum", "J", false)
  | 27 => ("LastAskedModel", "come", "[I", true)
  | 28 => ("LastAskedModel", "comeThen", "[I", true)
  | 29 => ("LastAskedModel", "tourHoursNow", "I", false)
  | 30 => ("LastAskedModel", "hour", "[I", true)
  | 31 => ("LastAskedModel", "partIn", "[I", true)
  | 32 => ("LastAskedModel", "heirIn", "[I", true)
  | 33 => ("LastAskedModel", "fitsNow", "I", false)
  | 34 => ("LastAskedModel", "foundHour", "I", false)
  | 35 => ("LastAskedModel", "lookLeft", "I", false)
  | _ => ("LastAskedModel", "firstCatNow", "I", false)
def tyX9 : Nat → FieldType := fun k => match k with
  | 0 => .int
  | 1 => .int
  | 2 => .int
  | 3 => .object "LastAskedModel$City"
  | 4 => .object "LastAskedModel$City"
  | 5 => .array .byte
  | 6 => .int
  | 7 => .int
  | 8 => .int
  | 9 => .int
  | 10 => .int
  | 11 => .int
  | 12 => .int
  | 13 => .int
  | 14 => .long
  | 15 => .int
  | 16 => .array .int
  | 17 => .array .int
  | 18 => .array .int
  | 19 => .array .int
  | 20 => .int
  | 21 => .int
  | 22 => .array .int
  | 23 => .array .int
  | 24 => .int
  | 25 => .long
  | 26 => .long
  | 27 => .array .int
  | 28 => .array .int
  | 29 => .int
  | 30 => .array .int
  | 31 => .array .int
  | 32 => .array .int
  | 33 => .int
  | 34 => .int
  | 35 => .int
  | _ => .int
abbrev wsX90 : List Cond := u_ws RX9 TX9 37
theorem nmX9 : ∀ a, a < 37 → ∀ b, b < 37 → a ≠ b → (TX9 a).2.1 ≠ (TX9 b).2.1 := by decide +kernel
theorem tyX9_ok : ∀ k, k < 37 → parseFieldDescriptor (TX9 k).2.2.1 = some (tyX9 k) := by decide +kernel
abbrev vwCl : List vw_C := [(RX0, TX0, 17), (RX1, TX1, 6), (RX2, TX2, 5), (RX3, TX3, 13), (RX4, TX4, 7), (RX5, TX5, 1), (RX6, TX6, 1), (RX7, TX7, 10), (RX8, TX8, 17), (RX9, TX9, 37)]
set_option maxRecDepth 20000 in
theorem inX0 : ∀ w ∈ wsX00, w ∈ lw_tbl := fun w h => List.mem_append_right _ (x_mem (big := tables_1) wsX00 [96, 98, 100, 102, 104, 106, 108, 110, 112, 114, 116, 118, 120, 122, 124, 126, 128] (by decide +kernel) w h)
set_option maxRecDepth 20000 in
theorem inX1 : ∀ w ∈ wsX10, w ∈ lw_tbl := fun w h => List.mem_append_right _ (x_mem (big := tables_1) wsX10 [274, 276, 278, 280, 282, 284] (by decide +kernel) w h)
set_option maxRecDepth 20000 in
theorem inX2 : ∀ w ∈ wsX20, w ∈ lw_tbl := fun w h => List.mem_append_right _ (x_mem (big := tables_1) wsX20 [230, 232, 234, 236, 238] (by decide +kernel) w h)
set_option maxRecDepth 20000 in
theorem inX3 : ∀ w ∈ wsX30, w ∈ lw_tbl := fun w h => List.mem_append_right _ (x_mem (big := tables_1) wsX30 [148, 150, 152, 154, 156, 158, 160, 162, 164, 166, 168, 170, 172] (by decide +kernel) w h)
set_option maxRecDepth 20000 in
theorem inX4 : ∀ w ∈ wsX40, w ∈ lw_tbl := fun w h => List.mem_append_right _ (x_mem (big := tables_1) wsX40 [199, 201, 203, 205, 207, 209, 211] (by decide +kernel) w h)
set_option maxRecDepth 20000 in
theorem inX5 : ∀ w ∈ wsX50, w ∈ lw_tbl := fun w h => List.mem_append_right _ (x_mem (big := tables_1) wsX50 [259] (by decide +kernel) w h)
set_option maxRecDepth 20000 in
theorem inX6 : ∀ w ∈ wsX60, w ∈ lw_tbl := fun w h => List.mem_append_right _ (x_mem (big := tables_1) wsX60 [249] (by decide +kernel) w h)
set_option maxRecDepth 20000 in
theorem inX7 : ∀ w ∈ wsX70, w ∈ lw_tbl := fun w h => List.mem_append_right _ (x_mem (big := tables_1) wsX70 [297, 299, 301, 303, 305, 307, 309, 311, 313, 315] (by decide +kernel) w h)
set_option maxRecDepth 20000 in
theorem inX8 : ∀ w ∈ wsX80, w ∈ lw_tbl := fun w h => List.mem_append_right _ (x_mem (big := tables_1) wsX80 [1157, 1159, 1161, 1163, 1165, 1167, 1169, 1171, 1173, 1175, 1177, 1179, 1181, 1183, 1185, 1187, 1189] (by decide +kernel) w h)
set_option maxRecDepth 20000 in
theorem inX9 : ∀ w ∈ wsX90, w ∈ lw_tbl := fun w h => List.mem_append_right _ (x_mem (big := tables_1) wsX90 [1031, 1033, 1035, 1037, 1039, 1041, 1043, 1045, 1047, 1049, 1051, 1053, 1055, 1057, 1059, 1061, 1063, 1065, 1067, 1069, 1071, 1073, 1075, 1077, 1079, 1081, 1083, 1085, 1087, 1089, 1091, 1093, 1095, 1097, 1099, 1101, 1103] (by decide +kernel) w h)
end
section
def xTT : List (List Nat) := [[0, 0, 0, 0, 0, 0, 0, 2, 2, 2, 2, 2, 2, 2, 2, 2, 2], [0, 2, 2, 2, 2, 2], [0, 0, 0, 2, 2], [0, 0, 2, 0, 2, 0, 0, 0, 0, 0, 1, 3, 2], [0, 0, 0, 0, 0, 2, 2], [2], [2], [2, 2, 2, 2, 2, 2, 2, 2, 0, 0], [0, 0, 0, 0, 0, 0, 0, 2, 2, 2, 2, 2, 2, 2, 2, 2, 2], [0, 0, 0, 2, 2, 2, 0, 0, 0, 0, 0, 0, 0, 0, 1, 0, 2, 2, 2, 2, 0, 0, 2, 2, 0, 1, 1, 2, 2, 0, 2, 2, 2, 0, 0, 0, 0]]
def xNF (c : Nat) : Nat := (xTT.getD c []).length
def xT (c k : Nat) : Nat := (xTT.getD c []).getD k 0
def xkC (c : Nat) : vw_C := vwCl.getD c (RX0, TX0, 17)
def xkT (c : Nat) : Nat → FieldType := match c with
  | 0 => tyX0
  | 1 => tyX1
  | 2 => tyX2
  | 3 => tyX3
  | 4 => tyX4
  | 5 => tyX5
  | 6 => tyX6
  | 7 => tyX7
  | 8 => tyX8
  | _ => tyX9
def xtc (t : FieldType) : Nat := match t with
  | .int => 0
  | .long => 1
  | .boolean => 3
  | .object _ => 2
  | .array _ => 2
  | _ => 9
def x_kcP (c : Nat) : Prop := vwCl[c]? = some (xkC c) ∧ (xkC c).2.2 = xNF c ∧ (∀ w ∈ u_ws (xkC c).1 (xkC c).2.1 (xkC c).2.2, w ∈ lw_tbl) ∧ (∀ k, k < (xkC c).2.2 → parseFieldDescriptor ((xkC c).2.1 k).2.2.1 = some (xkT c k)) ∧ (∀ a, a < (xkC c).2.2 → ∀ b, b < (xkC c).2.2 → a ≠ b → ((xkC c).2.1 a).2.1 ≠ ((xkC c).2.1 b).2.1) ∧ ∀ k, k < (xkC c).2.2 → xtc (xkT c k) = xT c k ∧ ((xkC c).2.1 k).1 = (xkC c).1
theorem x_kc0 : x_kcP 0 := ⟨rfl, rfl, inX0, tyX0_ok, nmX0, by decide +kernel⟩
theorem x_kc1 : x_kcP 1 := ⟨rfl, rfl, inX1, tyX1_ok, nmX1, by decide +kernel⟩
theorem x_kc2 : x_kcP 2 := ⟨rfl, rfl, inX2, tyX2_ok, nmX2, by decide +kernel⟩
theorem x_kc3 : x_kcP 3 := ⟨rfl, rfl, inX3, tyX3_ok, nmX3, by decide +kernel⟩
theorem x_kc4 : x_kcP 4 := ⟨rfl, rfl, inX4, tyX4_ok, nmX4, by decide +kernel⟩
theorem x_kc5 : x_kcP 5 := ⟨rfl, rfl, inX5, tyX5_ok, nmX5, by decide +kernel⟩
theorem x_kc6 : x_kcP 6 := ⟨rfl, rfl, inX6, tyX6_ok, nmX6, by decide +kernel⟩
theorem x_kc7 : x_kcP 7 := ⟨rfl, rfl, inX7, tyX7_ok, nmX7, by decide +kernel⟩
theorem x_kc8 : x_kcP 8 := ⟨rfl, rfl, inX8, tyX8_ok, nmX8, by decide +kernel⟩
theorem x_kc9 : x_kcP 9 := ⟨rfl, rfl, inX9, tyX9_ok, nmX9, by decide +kernel⟩
theorem x_kc (c : Nat) (h : c < 10) : x_kcP c := by
  rcases (show c = 0 ∨ c = 1 ∨ c = 2 ∨ c = 3 ∨ c = 4 ∨ c = 5 ∨ c = 6 ∨ c = 7 ∨ c = 8 ∨ c = 9 by omega) with rfl | rfl | rfl | rfl | rfl | rfl | rfl | rfl | rfl | rfl
  · exact x_kc0
  · exact x_kc1
  · exact x_kc2
  · exact x_kc3
  · exact x_kc4
  · exact x_kc5
  · exact x_kc6
  · exact x_kc7
  · exact x_kc8
  · exact x_kc9
def xRs : List String := ["LastAsked$City", "LastAsked$Fits", "LastAsked$Past", "LastAsked$Reader", "LastAsked$State", "LastAsked$Walks", "LastAsked$Wills", "LastAsked", "LastAskedModel$City", "LastAskedModel", "java/lang/Integer"]
def xR (o : Nat) : String := xRs.getD o ""
/-- a method: name, code, locals, answer, class, arguments (this among them), static -/
abbrev xMe : Type := MethodName × ByteArray × Nat × Option FieldType × Nat × Nat × Bool
def xMs_0 : List xMe := [
  (⟨"LastAsked$City", "<init>", "()V"⟩, prog_2_method_1_code, 1, (Option.none : Option Jvm.ClassFile.FieldType), 0, 1, false),
  (⟨"LastAsked$City", "clear", "()V"⟩, prog_2_method_2_code, 2, (Option.none : Option Jvm.ClassFile.FieldType), 0, 1, false),
  (⟨"LastAsked$City", "copy", "(LLastAsked$City;)V"⟩, prog_2_method_3_code, 2, (Option.none : Option Jvm.ClassFile.FieldType), 0, 2, false),
  (⟨"LastAsked$City", "everybody", "()I"⟩, prog_2_method_4_code, 1, (Option.some Jvm.ClassFile.FieldType.int), 0, 1, false),
  (⟨"LastAsked$City", "allows", "(II)Z"⟩, prog_2_method_5_code, 3, (Option.some Jvm.ClassFile.FieldType.boolean), 0, 3, false),
  (⟨"LastAsked$City", "measureWays", "()V"⟩, prog_2_method_6_code, 4, (Option.none : Option Jvm.ClassFile.FieldType), 0, 1, false),
  (⟨"LastAsked$Fits", "<init>", "()V"⟩, prog_3_method_1_code, 1, (Option.none : Option Jvm.ClassFile.FieldType), 1, 1, false),
  (⟨"LastAsked$Fits", "open", "(LLastAsked$City;)V"⟩, prog_3_method_2_code, 4, (Option.none : Option Jvm.ClassFile.FieldType), 1, 2, false),
  (⟨"LastAsked$Fits", "hourBy", "(II)I"⟩, prog_3_method_3_code, 3, (Option.some Jvm.ClassFile.FieldType.int), 1, 3, false),
  (⟨"LastAsked$Fits", "holds", "(LLastAsked$City;I)Z"⟩, prog_3_method_4_code, 5, (Option.some Jvm.ClassFile.FieldType.boolean), 1, 3, false),
  (⟨"LastAsked$Fits", "countAll", "(LLastAsked$City;)I"⟩, prog_3_method_5_code, 4, (Option.some Jvm.ClassFile.FieldType.int), 1, 2, false),
  (⟨"LastAsked$Fits", "find", "(LLastAsked$City;I)I"⟩, prog_3_method_6_code, 5, (Option.some Jvm.ClassFile.FieldType.int), 1, 3, false),
  (⟨"LastAsked$Fits", "countHeir", "(LLastAsked$City;II)I"⟩, prog_3_method_7_code, 6, (Option.some Jvm.ClassFile.FieldType.int), 1, 4, false),
  (⟨"LastAsked$Fits", "whichToLookAt", "(LLastAsked$City;)I"⟩, prog_3_method_8_code, 6, (Option.some Jvm.ClassFile.FieldType.int), 1, 2, false),
  (⟨"LastAsked$Fits", "countByHours", "(LLastAsked$City;)I"⟩, prog_3_method_9_code, 5, (Option.some Jvm.ClassFile.FieldType.int), 1, 2, false),
  (⟨"LastAsked$Fits", "leftAtMost", "(I)I"⟩, prog_3_method_10_code, 4, (Option.some Jvm.ClassFile.FieldType.int), 1, 2, false),
  (⟨"LastAsked$Past", "<init>", "()V"⟩, prog_4_method_1_code, 2, (Option.none : Option Jvm.ClassFile.FieldType), 2, 1, false),
  (⟨"LastAsked$Past", "forget", "()V"⟩, prog_4_method_2_code, 1, (Option.none : Option Jvm.ClassFile.FieldType), 2, 1, false),
  (⟨"LastAsked$Past", "keep", "(LLastAsked$State;)V"⟩, prog_4_method_3_code, 2, (Option.none : Option Jvm.ClassFile.FieldType), 2, 2, false),
  (⟨"LastAsked$Past", "takeBack", "(LLastAsked$State;)Z"⟩, prog_4_method_4_code, 2, (Option.some Jvm.ClassFile.FieldType.boolean), 2, 2, false),
  (⟨"LastAsked$Past", "addImage", "(LLastAsked$State;)I"⟩, prog_4_method_5_code, 2, (Option.some Jvm.ClassFile.FieldType.int), 2, 2, false),
  (⟨"LastAsked$Past", "showImage", "(ILLastAsked$State;)Z"⟩, prog_4_method_6_code, 3, (Option.some Jvm.ClassFile.FieldType.boolean), 2, 3, false),
  (⟨"LastAsked$Reader", "<init>", "()V"⟩, prog_5_method_1_code, 1, (Option.none : Option Jvm.ClassFile.FieldType), 3, 1, false),
  (⟨"LastAsked$Reader", "append", "(I)V"⟩, prog_5_method_2_code, 3, (Option.none : Option Jvm.ClassFile.FieldType), 3, 2, false),
  (⟨"LastAsked$Reader", "readCity", "(I)I"⟩, prog_5_method_3_code, 4, (Option.some Jvm.ClassFile.FieldType.int), 3, 2, false),
  (⟨"LastAsked$Reader", "spoil", "(I)Z"⟩, prog_5_method_4_code, 2, (Option.some Jvm.ClassFile.FieldType.boolean), 3, 2, false),
  (⟨"LastAsked$Reader", "step", "()I"⟩, prog_5_method_5_code, 1, (Option.some Jvm.ClassFile.FieldType.int), 3, 1, false),
  (⟨"LastAsked$Reader", "stepWord", "()V"⟩, prog_5_method_6_code, 1, (Option.none : Option Jvm.ClassFile.FieldType), 3, 1, false),
  (⟨"LastAsked$Reader", "stepWhole", "()V"⟩, prog_5_method_7_code, 1, (Option.none : Option Jvm.ClassFile.FieldType), 3, 1, false),
  (⟨"LastAsked$Reader", "stands", "(J)Z"⟩, prog_5_method_8_code, 3, (Option.some Jvm.ClassFile.FieldType.boolean), 3, 2, false),
  (⟨"LastAsked$Reader", "takeWord", "(J)Z"⟩, prog_5_method_9_code, 3, (Option.some Jvm.ClassFile.FieldType.boolean), 3, 2, false),
  (⟨"LastAsked$Reader", "takeWhole", "(I)Z"⟩, prog_5_method_10_code, 2, (Option.some Jvm.ClassFile.FieldType.boolean), 3, 2, false),
  (⟨"LastAsked$Reader", "isName", "()Z"⟩, prog_5_method_11_code, 2, (Option.some Jvm.ClassFile.FieldType.boolean), 3, 1, false),
  (⟨"LastAsked$Reader", "bearer", "()I"⟩, prog_5_method_12_code, 2, (Option.some Jvm.ClassFile.FieldType.int), 3, 1, false),
  (⟨"LastAsked$Reader", "personHere", "()I"⟩, prog_5_method_13_code, 2, (Option.some Jvm.ClassFile.FieldType.int), 3, 1, false),
  (⟨"LastAsked$Reader", "takePerson", "()I"⟩, prog_5_method_14_code, 1, (Option.some Jvm.ClassFile.FieldType.int), 3, 1, false),
  (⟨"LastAsked$Reader", "readLine", "()Z"⟩, prog_5_method_15_code, 5, (Option.some Jvm.ClassFile.FieldType.boolean), 3, 1, false),
  (⟨"LastAsked$Reader", "readHead", "()Z"⟩, prog_5_method_16_code, 1, (Option.some Jvm.ClassFile.FieldType.boolean), 3, 1, false),
  (⟨"LastAsked$Reader", "readNewPerson", "()Z"⟩, prog_5_method_17_code, 2, (Option.some Jvm.ClassFile.FieldType.boolean), 3, 1, false),
  (⟨"LastAsked$Reader", "takeKind", "()I"⟩, prog_5_method_18_code, 1, (Option.some Jvm.ClassFile.FieldType.int), 3, 1, false)]
def xMs_1 : List xMe := [
  (⟨"LastAsked$Reader", "readNear", "()Z"⟩, prog_5_method_19_code, 3, (Option.some Jvm.ClassFile.FieldType.boolean), 3, 1, false),
  (⟨"LastAsked$Reader", "takePair", "()I"⟩, prog_5_method_20_code, 3, (Option.some Jvm.ClassFile.FieldType.int), 3, 1, false),
  (⟨"LastAsked$Reader", "readAsked", "()Z"⟩, prog_5_method_21_code, 2, (Option.some Jvm.ClassFile.FieldType.boolean), 3, 1, false),
  (⟨"LastAsked$Reader", "readHeard", "()Z"⟩, prog_5_method_22_code, 3, (Option.some Jvm.ClassFile.FieldType.boolean), 3, 1, false),
  (⟨"LastAsked$Reader", "readWent", "()Z"⟩, prog_5_method_23_code, 3, (Option.some Jvm.ClassFile.FieldType.boolean), 3, 1, false),
  (⟨"LastAsked$State", "<init>", "()V"⟩, prog_6_method_1_code, 1, (Option.none : Option Jvm.ClassFile.FieldType), 4, 1, false),
  (⟨"LastAsked$State", "begin", "(LLastAsked$City;)V"⟩, prog_6_method_2_code, 2, (Option.none : Option Jvm.ClassFile.FieldType), 4, 2, false),
  (⟨"LastAsked$State", "copy", "(LLastAsked$State;)V"⟩, prog_6_method_3_code, 2, (Option.none : Option Jvm.ClassFile.FieldType), 4, 2, false),
  (⟨"LastAsked$State", "alive", "(I)Z"⟩, prog_6_method_4_code, 2, (Option.some Jvm.ClassFile.FieldType.boolean), 4, 2, false),
  (⟨"LastAsked$State", "give", "(III)I"⟩, prog_6_method_5_code, 5, (Option.some Jvm.ClassFile.FieldType.int), 4, 4, false),
  (⟨"LastAsked$State", "draw", "()I"⟩, prog_6_method_6_code, 1, (Option.some Jvm.ClassFile.FieldType.int), 4, 1, false),
  (⟨"LastAsked$State", "leave", "(ILLastAsked$Wills;)V"⟩, prog_6_method_7_code, 6, (Option.none : Option Jvm.ClassFile.FieldType), 4, 3, false),
  (⟨"LastAsked$Walks", "<init>", "()V"⟩, prog_7_method_1_code, 1, (Option.none : Option Jvm.ClassFile.FieldType), 5, 1, false),
  (⟨"LastAsked$Walks", "measure", "(I[I)V"⟩, prog_7_method_2_code, 5, (Option.none : Option Jvm.ClassFile.FieldType), 5, 3, false),
  (⟨"LastAsked$Walks", "leastTo", "(III[I)I"⟩, prog_7_method_3_code, 8, (Option.some Jvm.ClassFile.FieldType.int), 5, 5, false),
  (⟨"LastAsked$Walks", "hoursFor", "(I)I"⟩, prog_7_method_4_code, 4, (Option.some Jvm.ClassFile.FieldType.int), 5, 2, false),
  (⟨"LastAsked$Wills", "<init>", "()V"⟩, prog_8_method_1_code, 1, (Option.none : Option Jvm.ClassFile.FieldType), 6, 1, false),
  (⟨"LastAsked$Wills", "read", "([II)V"⟩, prog_8_method_2_code, 4, (Option.none : Option Jvm.ClassFile.FieldType), 6, 3, false),
  (⟨"LastAsked$Wills", "latest", "([III)I"⟩, prog_8_method_3_code, 6, (Option.some Jvm.ClassFile.FieldType.int), 6, 3, true),
  (⟨"LastAsked$Wills", "endOf", "(II)I"⟩, prog_8_method_4_code, 6, (Option.some Jvm.ClassFile.FieldType.int), 6, 3, false),
  (⟨"LastAsked$Wills", "between", "(II)I"⟩, prog_8_method_5_code, 6, (Option.some Jvm.ClassFile.FieldType.int), 6, 3, false),
  (⟨"LastAsked$Wills", "untilCat", "(I)I"⟩, prog_8_method_6_code, 5, (Option.some Jvm.ClassFile.FieldType.int), 6, 2, false),
  (⟨"LastAsked$Wills", "comesBack", "(I)Z"⟩, prog_8_method_7_code, 4, (Option.some Jvm.ClassFile.FieldType.boolean), 6, 2, false),
  (⟨"LastAsked", "<init>", "()V"⟩, prog_1_method_1_code, 1, (Option.none : Option Jvm.ClassFile.FieldType), 7, 1, false),
  (⟨"LastAsked", "feed", "(IIIII)I"⟩, prog_1_method_2_code, 6, (Option.some Jvm.ClassFile.FieldType.int), 7, 6, false),
  (⟨"LastAsked", "city", "(I)I"⟩, prog_1_method_3_code, 2, (Option.some Jvm.ClassFile.FieldType.int), 7, 2, false),
  (⟨"LastAsked", "fault", "()I"⟩, prog_1_method_4_code, 1, (Option.some Jvm.ClassFile.FieldType.int), 7, 1, false),
  (⟨"LastAsked", "where", "()I"⟩, prog_1_method_5_code, 1, (Option.some Jvm.ClassFile.FieldType.int), 7, 1, false),
  (⟨"LastAsked", "person", "(II)I"⟩, prog_1_method_6_code, 3, (Option.some Jvm.ClassFile.FieldType.int), 7, 3, false),
  (⟨"LastAsked", "register", "(II)I"⟩, prog_1_method_7_code, 3, (Option.some Jvm.ClassFile.FieldType.int), 7, 3, false),
  (⟨"LastAsked", "heir", "(I)I"⟩, prog_1_method_8_code, 2, (Option.some Jvm.ClassFile.FieldType.int), 7, 2, false),
  (⟨"LastAsked", "heirTo", "(I)I"⟩, prog_1_method_9_code, 2, (Option.some Jvm.ClassFile.FieldType.int), 7, 2, false),
  (⟨"LastAsked", "hopes", "(I)I"⟩, prog_1_method_10_code, 3, (Option.some Jvm.ClassFile.FieldType.int), 7, 2, false),
  (⟨"LastAsked", "cat", "()I"⟩, prog_1_method_11_code, 1, (Option.some Jvm.ClassFile.FieldType.int), 7, 1, false),
  (⟨"LastAsked", "richest", "()I"⟩, prog_1_method_12_code, 1, (Option.some Jvm.ClassFile.FieldType.int), 7, 1, false),
  (⟨"LastAsked", "goesTo", "(II)I"⟩, prog_1_method_13_code, 3, (Option.some Jvm.ClassFile.FieldType.int), 7, 3, false),
  (⟨"LastAsked", "hasThen", "(II)I"⟩, prog_1_method_14_code, 4, (Option.some Jvm.ClassFile.FieldType.int), 7, 3, false),
  (⟨"LastAsked", "catThen", "(I)I"⟩, prog_1_method_15_code, 4, (Option.some Jvm.ClassFile.FieldType.int), 7, 2, false),
  (⟨"LastAsked", "rounds", "()I"⟩, prog_1_method_16_code, 3, (Option.some Jvm.ClassFile.FieldType.int), 7, 1, false),
  (⟨"LastAsked", "worthiest", "()I"⟩, prog_1_method_17_code, 4, (Option.some Jvm.ClassFile.FieldType.int), 7, 1, false)]
def xMs_2 : List xMe := [
  (⟨"LastAsked", "plot", "(II)I"⟩, prog_1_method_18_code, 4, (Option.some Jvm.ClassFile.FieldType.int), 7, 3, false),
  (⟨"LastAsked", "mean", "(IZ)J"⟩, prog_1_method_19_code, 3, (Option.some Jvm.ClassFile.FieldType.long), 7, 3, false),
  (⟨"LastAsked", "odds", "(IIZ)J"⟩, prog_1_method_20_code, 5, (Option.some Jvm.ClassFile.FieldType.long), 7, 4, false),
  (⟨"LastAsked", "passes", "(IIZ)J"⟩, prog_1_method_21_code, 5, (Option.some Jvm.ClassFile.FieldType.long), 7, 4, false),
  (⟨"LastAsked", "catMean", "(Z)J"⟩, prog_1_method_22_code, 5, (Option.some Jvm.ClassFile.FieldType.long), 7, 2, false),
  (⟨"LastAsked", "best", "(II)I"⟩, prog_1_method_23_code, 3, (Option.some Jvm.ClassFile.FieldType.int), 7, 3, false),
  (⟨"LastAsked", "bestMean", "(IIZ)J"⟩, prog_1_method_24_code, 4, (Option.some Jvm.ClassFile.FieldType.long), 7, 4, false),
  (⟨"LastAsked", "tour", "(II)I"⟩, prog_1_method_25_code, 3, (Option.some Jvm.ClassFile.FieldType.int), 7, 3, false),
  (⟨"LastAsked", "tourHours", "(II)I"⟩, prog_1_method_26_code, 3, (Option.some Jvm.ClassFile.FieldType.int), 7, 3, false),
  (⟨"LastAsked", "apart", "(II)I"⟩, prog_1_method_27_code, 4, (Option.some Jvm.ClassFile.FieldType.int), 7, 3, false),
  (⟨"LastAsked", "toAsk", "(I)I"⟩, prog_1_method_28_code, 2, (Option.some Jvm.ClassFile.FieldType.int), 7, 2, false),
  (⟨"LastAsked", "rivals", "(II)I"⟩, prog_1_method_29_code, 7, (Option.some Jvm.ClassFile.FieldType.int), 7, 3, false),
  (⟨"LastAsked", "fits", "()I"⟩, prog_1_method_30_code, 1, (Option.some Jvm.ClassFile.FieldType.int), 7, 1, false),
  (⟨"LastAsked", "fitAt", "(II)I"⟩, prog_1_method_31_code, 4, (Option.some Jvm.ClassFile.FieldType.int), 7, 3, false),
  (⟨"LastAsked", "heirBy", "(II)I"⟩, prog_1_method_32_code, 3, (Option.some Jvm.ClassFile.FieldType.int), 7, 3, false),
  (⟨"LastAsked", "look", "()I"⟩, prog_1_method_33_code, 1, (Option.some Jvm.ClassFile.FieldType.int), 7, 1, false),
  (⟨"LastAsked", "lookLeaves", "()I"⟩, prog_1_method_34_code, 2, (Option.some Jvm.ClassFile.FieldType.int), 7, 1, false),
  (⟨"LastAsked", "judge", "()I"⟩, prog_1_method_35_code, 2, (Option.some Jvm.ClassFile.FieldType.int), 7, 1, false),
  (⟨"LastAsked", "begs", "(IZZZ)I"⟩, prog_1_method_36_code, 5, (Option.some Jvm.ClassFile.FieldType.int), 7, 5, false),
  (⟨"LastAsked", "rests", "(I)I"⟩, prog_1_method_37_code, 4, (Option.some Jvm.ClassFile.FieldType.int), 7, 2, false),
  (⟨"LastAsked", "rest", "(I)I"⟩, prog_1_method_38_code, 3, (Option.some Jvm.ClassFile.FieldType.int), 7, 2, false),
  (⟨"LastAsked", "nights", "(III)I"⟩, prog_1_method_39_code, 4, (Option.some Jvm.ClassFile.FieldType.int), 7, 4, false),
  (⟨"LastAsked", "lives", "(II)I"⟩, prog_1_method_40_code, 3, (Option.some Jvm.ClassFile.FieldType.int), 7, 3, false),
  (⟨"LastAsked", "firstCat", "(II)I"⟩, prog_1_method_41_code, 4, (Option.some Jvm.ClassFile.FieldType.int), 7, 3, false),
  (⟨"LastAsked", "ask", "(II)I"⟩, prog_1_method_42_code, 3, (Option.some Jvm.ClassFile.FieldType.int), 7, 3, false),
  (⟨"LastAsked", "die", "(I)I"⟩, prog_1_method_43_code, 3, (Option.some Jvm.ClassFile.FieldType.int), 7, 2, false),
  (⟨"LastAsked", "night", "()I"⟩, prog_1_method_44_code, 1, (Option.some Jvm.ClassFile.FieldType.int), 7, 1, false),
  (⟨"LastAsked", "seed", "(I)Z"⟩, prog_1_method_45_code, 2, (Option.some Jvm.ClassFile.FieldType.boolean), 7, 2, false),
  (⟨"LastAsked", "undo", "()Z"⟩, prog_1_method_46_code, 1, (Option.some Jvm.ClassFile.FieldType.boolean), 7, 1, false),
  (⟨"LastAsked", "image", "()I"⟩, prog_1_method_47_code, 1, (Option.some Jvm.ClassFile.FieldType.int), 7, 1, false),
  (⟨"LastAsked", "back", "(I)Z"⟩, prog_1_method_48_code, 2, (Option.some Jvm.ClassFile.FieldType.boolean), 7, 2, false),
  (⟨"LastAsked", "led", "(I)I"⟩, prog_1_method_49_code, 4, (Option.some Jvm.ClassFile.FieldType.int), 7, 2, false),
  (⟨"LastAsked", "size", "(I)I"⟩, prog_1_method_50_code, 2, (Option.some Jvm.ClassFile.FieldType.int), 7, 2, false),
  (⟨"LastAsked", "trouble", "()I"⟩, prog_1_method_51_code, 1, (Option.some Jvm.ClassFile.FieldType.int), 7, 1, false),
  (⟨"LastAsked", "refused", "(I)Z"⟩, prog_1_method_52_code, 2, (Option.some Jvm.ClassFile.FieldType.boolean), 7, 2, false),
  (⟨"LastAsked", "isCity", "()Z"⟩, prog_1_method_53_code, 1, (Option.some Jvm.ClassFile.FieldType.boolean), 7, 1, false),
  (⟨"LastAsked", "isPerson", "(I)Z"⟩, prog_1_method_54_code, 2, (Option.some Jvm.ClassFile.FieldType.boolean), 7, 2, false),
  (⟨"LastAsked", "areTwo", "(II)Z"⟩, prog_1_method_55_code, 3, (Option.some Jvm.ClassFile.FieldType.boolean), 7, 3, false),
  (⟨"LastAsked", "isLivingSet", "(I)Z"⟩, prog_1_method_56_code, 2, (Option.some Jvm.ClassFile.FieldType.boolean), 7, 2, false),
  (⟨"LastAsked", "livesOr", "(I)I"⟩, prog_1_method_57_code, 2, (Option.some Jvm.ClassFile.FieldType.int), 7, 2, false)]
def xMs_3 : List xMe := [
  (⟨"LastAsked", "seekerOr", "(IZ)I"⟩, prog_1_method_58_code, 3, (Option.some Jvm.ClassFile.FieldType.int), 7, 3, false),
  (⟨"LastAsked", "shameOr", "(I)I"⟩, prog_1_method_59_code, 2, (Option.some Jvm.ClassFile.FieldType.int), 7, 2, false),
  (⟨"LastAsked", "drawsOr", "(II)I"⟩, prog_1_method_60_code, 4, (Option.some Jvm.ClassFile.FieldType.int), 7, 3, false),
  (⟨"LastAsked", "askTrouble", "(II)I"⟩, prog_1_method_61_code, 3, (Option.some Jvm.ClassFile.FieldType.int), 7, 3, false),
  (⟨"LastAsked", "in", "(II)Z"⟩, prog_1_method_62_code, 2, (Option.some Jvm.ClassFile.FieldType.boolean), 7, 2, true),
  (⟨"LastAsked", "pair", "(II)I"⟩, prog_1_method_63_code, 2, (Option.some Jvm.ClassFile.FieldType.int), 7, 2, true),
  (⟨"LastAsked", "askable", "(I)I"⟩, prog_1_method_64_code, 4, (Option.some Jvm.ClassFile.FieldType.int), 7, 2, false),
  (⟨"LastAsked", "askers", "(I)I"⟩, prog_1_method_65_code, 4, (Option.some Jvm.ClassFile.FieldType.int), 7, 2, false),
  (⟨"LastAsked", "richestOf", "(I)I"⟩, prog_1_method_66_code, 5, (Option.some Jvm.ClassFile.FieldType.int), 7, 2, false),
  (⟨"LastAsked", "willsNow", "()LLastAsked$Wills;"⟩, prog_1_method_67_code, 1, (Option.some (Jvm.ClassFile.FieldType.object "LastAsked$Wills")), 7, 1, false),
  (⟨"LastAsked", "heirsTo", "(I)I"⟩, prog_1_method_68_code, 4, (Option.some Jvm.ClassFile.FieldType.int), 7, 2, false),
  (⟨"LastAsked", "hasBehind", "(II)I"⟩, prog_1_method_69_code, 5, (Option.some Jvm.ClassFile.FieldType.int), 7, 3, false),
  (⟨"LastAsked", "likely", "(II)J"⟩, prog_1_method_70_code, 6, (Option.some Jvm.ClassFile.FieldType.long), 7, 3, false),
  (⟨"LastAsked", "meanOf", "(ILLastAsked$State;)J"⟩, prog_1_method_71_code, 7, (Option.some Jvm.ClassFile.FieldType.long), 7, 3, false),
  (⟨"LastAsked", "likelyToHave", "(II)J"⟩, prog_1_method_72_code, 6, (Option.some Jvm.ClassFile.FieldType.long), 7, 3, false),
  (⟨"LastAsked", "term", "(JZ)J"⟩, prog_1_method_73_code, 5, (Option.some Jvm.ClassFile.FieldType.long), 7, 2, true),
  (⟨"LastAsked", "commonDivisor", "(JJ)J"⟩, prog_1_method_74_code, 11, (Option.some Jvm.ClassFile.FieldType.long), 7, 2, true),
  (⟨"LastAsked", "bestRow", "(II)I"⟩, prog_1_method_75_code, 11, (Option.some Jvm.ClassFile.FieldType.int), 7, 3, false),
  (⟨"LastAsked", "mayBeFirst", "(II)Z"⟩, prog_1_method_76_code, 5, (Option.some Jvm.ClassFile.FieldType.boolean), 7, 2, true),
  (⟨"LastAsked", "meanByRow", "(II)J"⟩, prog_1_method_77_code, 5, (Option.some Jvm.ClassFile.FieldType.long), 7, 3, false),
  (⟨"LastAsked", "bestTour", "(II)I"⟩, prog_1_method_78_code, 11, (Option.some Jvm.ClassFile.FieldType.int), 7, 3, false),
  (⟨"LastAsked", "meanByTour", "(II)J"⟩, prog_1_method_79_code, 4, (Option.some Jvm.ClassFile.FieldType.long), 7, 3, false),
  (⟨"LastAsked", "payoff", "(IZZZ)I"⟩, prog_1_method_80_code, 4, (Option.some Jvm.ClassFile.FieldType.int), 7, 4, true),
  (⟨"LastAsked", "isRest", "(IZZ)Z"⟩, prog_1_method_81_code, 3, (Option.some Jvm.ClassFile.FieldType.boolean), 7, 3, true),
  (⟨"LastAsked", "sleep", "(II)V"⟩, prog_1_method_82_code, 4, (Option.none : Option Jvm.ClassFile.FieldType), 7, 3, false),
  (⟨"LastAsked", "passNight", "(LLastAsked$State;)I"⟩, prog_1_method_83_code, 4, (Option.some Jvm.ClassFile.FieldType.int), 7, 2, false),
  (⟨"LastAskedModel$City", "<init>", "()V"⟩, prog_11_method_1_code, 2, (Option.none : Option Jvm.ClassFile.FieldType), 8, 1, false),
  (⟨"LastAskedModel$City", "find", "(J)I"⟩, prog_11_method_2_code, 4, (Option.some Jvm.ClassFile.FieldType.int), 8, 2, false),
  (⟨"LastAskedModel$City", "mayAsk", "(II)Z"⟩, prog_11_method_3_code, 3, (Option.some Jvm.ClassFile.FieldType.boolean), 8, 3, false),
  (⟨"LastAskedModel", "<init>", "()V"⟩, prog_10_method_1_code, 1, (Option.none : Option Jvm.ClassFile.FieldType), 9, 1, false),
  (⟨"LastAskedModel", "thrown", "()I"⟩, prog_10_method_2_code, 1, (Option.some Jvm.ClassFile.FieldType.int), 9, 1, false),
  (⟨"LastAskedModel", "refused", "(I)I"⟩, prog_10_method_3_code, 2, (Option.some Jvm.ClassFile.FieldType.int), 9, 2, false),
  (⟨"LastAskedModel", "lost", "(I)I"⟩, prog_10_method_4_code, 2, (Option.some Jvm.ClassFile.FieldType.int), 9, 2, false),
  (⟨"LastAskedModel", "denied", "(I)Z"⟩, prog_10_method_5_code, 2, (Option.some Jvm.ClassFile.FieldType.boolean), 9, 2, false),
  (⟨"LastAskedModel", "good", "(I)I"⟩, prog_10_method_6_code, 2, (Option.some Jvm.ClassFile.FieldType.int), 9, 2, false),
  (⟨"LastAskedModel", "granted", "()Z"⟩, prog_10_method_7_code, 1, (Option.some Jvm.ClassFile.FieldType.boolean), 9, 1, false),
  (⟨"LastAskedModel", "in", "(III)Z"⟩, prog_10_method_8_code, 3, (Option.some Jvm.ClassFile.FieldType.boolean), 9, 3, true),
  (⟨"LastAskedModel", "bit", "(II)Z"⟩, prog_10_method_9_code, 2, (Option.some Jvm.ClassFile.FieldType.boolean), 9, 2, true),
  (⟨"LastAskedModel", "bits", "(I)I"⟩, prog_10_method_10_code, 3, (Option.some Jvm.ClassFile.FieldType.int), 9, 1, true),
  (⟨"LastAskedModel", "common", "(JJ)J"⟩, prog_10_method_11_code, 10, (Option.some Jvm.ClassFile.FieldType.long), 9, 2, true)]
def xMs_4 : List xMe := [
  (⟨"LastAskedModel", "fraction", "(JJZ)J"⟩, prog_10_method_12_code, 6, (Option.some Jvm.ClassFile.FieldType.long), 9, 4, false),
  (⟨"LastAskedModel", "byteAt", "(I)I"⟩, prog_10_method_13_code, 2, (Option.some Jvm.ClassFile.FieldType.int), 9, 2, false),
  (⟨"LastAskedModel", "isLetter", "(I)Z"⟩, prog_10_method_14_code, 1, (Option.some Jvm.ClassFile.FieldType.boolean), 9, 1, true),
  (⟨"LastAskedModel", "isDigit", "(I)Z"⟩, prog_10_method_15_code, 1, (Option.some Jvm.ClassFile.FieldType.boolean), 9, 1, true),
  (⟨"LastAskedModel", "packed", "(Ljava/lang/String;)J"⟩, prog_10_method_16_code, 4, (Option.some Jvm.ClassFile.FieldType.long), 9, 1, true),
  (⟨"LastAskedModel", "goesOn", "()V"⟩, prog_10_method_17_code, 3, (Option.none : Option Jvm.ClassFile.FieldType), 9, 1, false),
  (⟨"LastAskedModel", "flaw", "(I)V"⟩, prog_10_method_18_code, 2, (Option.none : Option Jvm.ClassFile.FieldType), 9, 2, false),
  (⟨"LastAskedModel", "isWord", "(Ljava/lang/String;)Z"⟩, prog_10_method_19_code, 2, (Option.some Jvm.ClassFile.FieldType.boolean), 9, 2, false),
  (⟨"LastAskedModel", "eatsSemicolon", "()Z"⟩, prog_10_method_20_code, 2, (Option.some Jvm.ClassFile.FieldType.boolean), 9, 1, false),
  (⟨"LastAskedModel", "readPart", "(Ljava/lang/String;II)I"⟩, prog_10_method_21_code, 5, (Option.some Jvm.ClassFile.FieldType.int), 9, 4, false),
  (⟨"LastAskedModel", "isName", "()Z"⟩, prog_10_method_22_code, 1, (Option.some Jvm.ClassFile.FieldType.boolean), 9, 1, false),
  (⟨"LastAskedModel", "lineBegins", "(II)V"⟩, prog_10_method_23_code, 3, (Option.none : Option Jvm.ClassFile.FieldType), 9, 3, false),
  (⟨"LastAskedModel", "personAtHand", "()I"⟩, prog_10_method_24_code, 2, (Option.some Jvm.ClassFile.FieldType.int), 9, 1, false),
  (⟨"LastAskedModel", "readAll", "()V"⟩, prog_10_method_25_code, 2, (Option.none : Option Jvm.ClassFile.FieldType), 9, 1, false),
  (⟨"LastAskedModel", "readLine", "()V"⟩, prog_10_method_26_code, 1, (Option.none : Option Jvm.ClassFile.FieldType), 9, 1, false),
  (⟨"LastAskedModel", "readCity", "()V"⟩, prog_10_method_27_code, 3, (Option.none : Option Jvm.ClassFile.FieldType), 9, 1, false),
  (⟨"LastAskedModel", "readPerson", "()V"⟩, prog_10_method_28_code, 7, (Option.none : Option Jvm.ClassFile.FieldType), 9, 1, false),
  (⟨"LastAskedModel", "readNear", "()V"⟩, prog_10_method_29_code, 3, (Option.none : Option Jvm.ClassFile.FieldType), 9, 1, false),
  (⟨"LastAskedModel", "readPair", "()I"⟩, prog_10_method_30_code, 2, (Option.some Jvm.ClassFile.FieldType.int), 9, 1, false),
  (⟨"LastAskedModel", "readAsked", "()V"⟩, prog_10_method_31_code, 3, (Option.none : Option Jvm.ClassFile.FieldType), 9, 1, false),
  (⟨"LastAskedModel", "readHeard", "()V"⟩, prog_10_method_32_code, 4, (Option.none : Option Jvm.ClassFile.FieldType), 9, 1, false),
  (⟨"LastAskedModel", "readWent", "()V"⟩, prog_10_method_33_code, 3, (Option.none : Option Jvm.ClassFile.FieldType), 9, 1, false),
  (⟨"LastAskedModel", "feed", "(IIIII)I"⟩, prog_10_method_34_code, 8, (Option.some Jvm.ClassFile.FieldType.int), 9, 6, false),
  (⟨"LastAskedModel", "city", "(I)I"⟩, prog_10_method_35_code, 3, (Option.some Jvm.ClassFile.FieldType.int), 9, 2, false),
  (⟨"LastAskedModel", "fault", "()I"⟩, prog_10_method_36_code, 1, (Option.some Jvm.ClassFile.FieldType.int), 9, 1, false),
  (⟨"LastAskedModel", "where", "()I"⟩, prog_10_method_37_code, 1, (Option.some Jvm.ClassFile.FieldType.int), 9, 1, false),
  (⟨"LastAskedModel", "isPerson", "(I)Z"⟩, prog_10_method_38_code, 2, (Option.some Jvm.ClassFile.FieldType.boolean), 9, 2, false),
  (⟨"LastAskedModel", "areTwo", "(II)Z"⟩, prog_10_method_39_code, 3, (Option.some Jvm.ClassFile.FieldType.boolean), 9, 3, false),
  (⟨"LastAskedModel", "works", "()V"⟩, prog_10_method_40_code, 2, (Option.none : Option Jvm.ClassFile.FieldType), 9, 1, false),
  (⟨"LastAskedModel", "asTold", "()V"⟩, prog_10_method_41_code, 2, (Option.none : Option Jvm.ClassFile.FieldType), 9, 1, false),
  (⟨"LastAskedModel", "isLiving", "(I)Z"⟩, prog_10_method_42_code, 2, (Option.some Jvm.ClassFile.FieldType.boolean), 9, 2, false),
  (⟨"LastAskedModel", "asked", "(II)I"⟩, prog_10_method_43_code, 3, (Option.some Jvm.ClassFile.FieldType.int), 9, 3, false),
  (⟨"LastAskedModel", "heirOf", "(I)I"⟩, prog_10_method_44_code, 4, (Option.some Jvm.ClassFile.FieldType.int), 9, 2, false),
  (⟨"LastAskedModel", "heirs", "()V"⟩, prog_10_method_45_code, 2, (Option.none : Option Jvm.ClassFile.FieldType), 9, 1, false),
  (⟨"LastAskedModel", "goes", "(II)I"⟩, prog_10_method_46_code, 5, (Option.some Jvm.ClassFile.FieldType.int), 9, 3, false),
  (⟨"LastAskedModel", "dying", "(I)V"⟩, prog_10_method_47_code, 4, (Option.none : Option Jvm.ClassFile.FieldType), 9, 2, false),
  (⟨"LastAskedModel", "dieAll", "(IZ)V"⟩, prog_10_method_48_code, 4, (Option.none : Option Jvm.ClassFile.FieldType), 9, 3, false),
  (⟨"LastAskedModel", "worksWithHeirs", "()V"⟩, prog_10_method_49_code, 1, (Option.none : Option Jvm.ClassFile.FieldType), 9, 1, false),
  (⟨"LastAskedModel", "near", "(I)I"⟩, prog_10_method_50_code, 2, (Option.some Jvm.ClassFile.FieldType.int), 9, 2, false),
  (⟨"LastAskedModel", "canAsk", "(I)I"⟩, prog_10_method_51_code, 4, (Option.some Jvm.ClassFile.FieldType.int), 9, 2, false)]
def xMs_5 : List xMe := [
  (⟨"LastAskedModel", "canBeAsked", "(I)I"⟩, prog_10_method_52_code, 4, (Option.some Jvm.ClassFile.FieldType.int), 9, 2, false),
  (⟨"LastAskedModel", "person", "(II)I"⟩, prog_10_method_53_code, 3, (Option.some Jvm.ClassFile.FieldType.int), 9, 3, false),
  (⟨"LastAskedModel", "register", "(II)I"⟩, prog_10_method_54_code, 4, (Option.some Jvm.ClassFile.FieldType.int), 9, 3, false),
  (⟨"LastAskedModel", "refusesLiving", "(I)I"⟩, prog_10_method_55_code, 2, (Option.some Jvm.ClassFile.FieldType.int), 9, 2, false),
  (⟨"LastAskedModel", "heir", "(I)I"⟩, prog_10_method_56_code, 3, (Option.some Jvm.ClassFile.FieldType.int), 9, 2, false),
  (⟨"LastAskedModel", "inheritsOf", "(I)I"⟩, prog_10_method_57_code, 4, (Option.some Jvm.ClassFile.FieldType.int), 9, 2, false),
  (⟨"LastAskedModel", "heirTo", "(I)I"⟩, prog_10_method_58_code, 2, (Option.some Jvm.ClassFile.FieldType.int), 9, 2, false),
  (⟨"LastAskedModel", "hopes", "(I)I"⟩, prog_10_method_59_code, 3, (Option.some Jvm.ClassFile.FieldType.int), 9, 2, false),
  (⟨"LastAskedModel", "cat", "()I"⟩, prog_10_method_60_code, 1, (Option.some Jvm.ClassFile.FieldType.int), 9, 1, false),
  (⟨"LastAskedModel", "richest", "()I"⟩, prog_10_method_61_code, 3, (Option.some Jvm.ClassFile.FieldType.int), 9, 1, false),
  (⟨"LastAskedModel", "canDie", "(I)Z"⟩, prog_10_method_62_code, 2, (Option.some Jvm.ClassFile.FieldType.boolean), 9, 2, false),
  (⟨"LastAskedModel", "goesTo", "(II)I"⟩, prog_10_method_63_code, 3, (Option.some Jvm.ClassFile.FieldType.int), 9, 3, false),
  (⟨"LastAskedModel", "hasThen", "(II)I"⟩, prog_10_method_64_code, 4, (Option.some Jvm.ClassFile.FieldType.int), 9, 3, false),
  (⟨"LastAskedModel", "catThen", "(I)I"⟩, prog_10_method_65_code, 2, (Option.some Jvm.ClassFile.FieldType.int), 9, 2, false),
  (⟨"LastAskedModel", "rounds", "()I"⟩, prog_10_method_66_code, 5, (Option.some Jvm.ClassFile.FieldType.int), 9, 1, false),
  (⟨"LastAskedModel", "worthiest", "()I"⟩, prog_10_method_67_code, 4, (Option.some Jvm.ClassFile.FieldType.int), 9, 1, false),
  (⟨"LastAskedModel", "plot", "(II)I"⟩, prog_10_method_68_code, 5, (Option.some Jvm.ClassFile.FieldType.int), 9, 3, false),
  (⟨"LastAskedModel", "partOf", "(I)J"⟩, prog_10_method_69_code, 5, (Option.some Jvm.ClassFile.FieldType.long), 9, 2, false),
  (⟨"LastAskedModel", "wholeOf", "()V"⟩, prog_10_method_70_code, 2, (Option.none : Option Jvm.ClassFile.FieldType), 9, 1, false),
  (⟨"LastAskedModel", "meanOf", "(I)J"⟩, prog_10_method_71_code, 7, (Option.some Jvm.ClassFile.FieldType.long), 9, 2, false),
  (⟨"LastAskedModel", "mean", "(IZ)J"⟩, prog_10_method_72_code, 5, (Option.some Jvm.ClassFile.FieldType.long), 9, 3, false),
  (⟨"LastAskedModel", "odds", "(IIZ)J"⟩, prog_10_method_73_code, 7, (Option.some Jvm.ClassFile.FieldType.long), 9, 4, false),
  (⟨"LastAskedModel", "passes", "(IIZ)J"⟩, prog_10_method_74_code, 7, (Option.some Jvm.ClassFile.FieldType.long), 9, 4, false),
  (⟨"LastAskedModel", "catMean", "(Z)J"⟩, prog_10_method_75_code, 5, (Option.some Jvm.ClassFile.FieldType.long), 9, 2, false),
  (⟨"LastAskedModel", "asks", "(II)V"⟩, prog_10_method_76_code, 4, (Option.none : Option Jvm.ClassFile.FieldType), 9, 3, false),
  (⟨"LastAskedModel", "bestRow", "(II)I"⟩, prog_10_method_77_code, 13, (Option.some Jvm.ClassFile.FieldType.int), 9, 3, false),
  (⟨"LastAskedModel", "refusesNumber", "(IIII)I"⟩, prog_10_method_78_code, 5, (Option.some Jvm.ClassFile.FieldType.int), 9, 5, false),
  (⟨"LastAskedModel", "best", "(II)I"⟩, prog_10_method_79_code, 4, (Option.some Jvm.ClassFile.FieldType.int), 9, 3, false),
  (⟨"LastAskedModel", "bestMean", "(IIZ)J"⟩, prog_10_method_80_code, 5, (Option.some Jvm.ClassFile.FieldType.long), 9, 4, false),
  (⟨"LastAskedModel", "hoursBy", "(III)I"⟩, prog_10_method_81_code, 7, (Option.some Jvm.ClassFile.FieldType.int), 9, 4, false),
  (⟨"LastAskedModel", "spreads", "(II)V"⟩, prog_10_method_82_code, 4, (Option.none : Option Jvm.ClassFile.FieldType), 9, 3, false),
  (⟨"LastAskedModel", "bestTour", "(II)I"⟩, prog_10_method_83_code, 11, (Option.some Jvm.ClassFile.FieldType.int), 9, 3, false),
  (⟨"LastAskedModel", "tour", "(II)I"⟩, prog_10_method_84_code, 4, (Option.some Jvm.ClassFile.FieldType.int), 9, 3, false),
  (⟨"LastAskedModel", "tourHours", "(II)I"⟩, prog_10_method_85_code, 4, (Option.some Jvm.ClassFile.FieldType.int), 9, 3, false),
  (⟨"LastAskedModel", "apart", "(II)I"⟩, prog_10_method_86_code, 4, (Option.some Jvm.ClassFile.FieldType.int), 9, 3, false),
  (⟨"LastAskedModel", "toAsk", "(I)I"⟩, prog_10_method_87_code, 5, (Option.some Jvm.ClassFile.FieldType.int), 9, 2, false),
  (⟨"LastAskedModel", "rivals", "(II)I"⟩, prog_10_method_88_code, 5, (Option.some Jvm.ClassFile.FieldType.int), 9, 3, false),
  (⟨"LastAskedModel", "low", "(I)I"⟩, prog_10_method_89_code, 3, (Option.some Jvm.ClassFile.FieldType.int), 9, 2, false),
  (⟨"LastAskedModel", "many", "(I)I"⟩, prog_10_method_90_code, 2, (Option.some Jvm.ClassFile.FieldType.int), 9, 2, false),
  (⟨"LastAskedModel", "wrong", "()I"⟩, prog_10_method_91_code, 2, (Option.some Jvm.ClassFile.FieldType.int), 9, 1, false)]
def xMs_6 : List xMe := [
  (⟨"LastAskedModel", "fitting", "(II)Z"⟩, prog_10_method_92_code, 8, (Option.some Jvm.ClassFile.FieldType.boolean), 9, 3, false),
  (⟨"LastAskedModel", "fits", "()I"⟩, prog_10_method_93_code, 1, (Option.some Jvm.ClassFile.FieldType.int), 9, 1, false),
  (⟨"LastAskedModel", "fitAt", "(II)I"⟩, prog_10_method_94_code, 3, (Option.some Jvm.ClassFile.FieldType.int), 9, 3, false),
  (⟨"LastAskedModel", "heirBy", "(II)I"⟩, prog_10_method_95_code, 3, (Option.some Jvm.ClassFile.FieldType.int), 9, 3, false),
  (⟨"LastAskedModel", "looks", "()I"⟩, prog_10_method_96_code, 5, (Option.some Jvm.ClassFile.FieldType.int), 9, 1, false),
  (⟨"LastAskedModel", "look", "()I"⟩, prog_10_method_97_code, 1, (Option.some Jvm.ClassFile.FieldType.int), 9, 1, false),
  (⟨"LastAskedModel", "lookLeaves", "()I"⟩, prog_10_method_98_code, 1, (Option.some Jvm.ClassFile.FieldType.int), 9, 1, false),
  (⟨"LastAskedModel", "judge", "()I"⟩, prog_10_method_99_code, 1, (Option.some Jvm.ClassFile.FieldType.int), 9, 1, false),
  (⟨"LastAskedModel", "rich", "(IZZ)I"⟩, prog_10_method_100_code, 3, (Option.some Jvm.ClassFile.FieldType.int), 9, 3, true),
  (⟨"LastAskedModel", "beggar", "(ZZ)I"⟩, prog_10_method_101_code, 2, (Option.some Jvm.ClassFile.FieldType.int), 9, 2, true),
  (⟨"LastAskedModel", "refusesShame", "(I)I"⟩, prog_10_method_102_code, 2, (Option.some Jvm.ClassFile.FieldType.int), 9, 2, false),
  (⟨"LastAskedModel", "begs", "(IZZZ)I"⟩, prog_10_method_103_code, 6, (Option.some Jvm.ClassFile.FieldType.int), 9, 5, false),
  (⟨"LastAskedModel", "isRest", "(II)Z"⟩, prog_10_method_104_code, 4, (Option.some Jvm.ClassFile.FieldType.boolean), 9, 2, true),
  (⟨"LastAskedModel", "rests", "(I)I"⟩, prog_10_method_105_code, 5, (Option.some Jvm.ClassFile.FieldType.int), 9, 2, false),
  (⟨"LastAskedModel", "rest", "(I)I"⟩, prog_10_method_106_code, 4, (Option.some Jvm.ClassFile.FieldType.int), 9, 2, false),
  (⟨"LastAskedModel", "aNight", "(Z)I"⟩, prog_10_method_107_code, 4, (Option.some Jvm.ClassFile.FieldType.int), 9, 2, false),
  (⟨"LastAskedModel", "nightsAll", "(II)V"⟩, prog_10_method_108_code, 4, (Option.none : Option Jvm.ClassFile.FieldType), 9, 3, false),
  (⟨"LastAskedModel", "refusesSeed", "(ZII)I"⟩, prog_10_method_109_code, 4, (Option.some Jvm.ClassFile.FieldType.int), 9, 4, false),
  (⟨"LastAskedModel", "nights", "(III)I"⟩, prog_10_method_110_code, 5, (Option.some Jvm.ClassFile.FieldType.int), 9, 4, false),
  (⟨"LastAskedModel", "lives", "(II)I"⟩, prog_10_method_111_code, 4, (Option.some Jvm.ClassFile.FieldType.int), 9, 3, false),
  (⟨"LastAskedModel", "firstCat", "(II)I"⟩, prog_10_method_112_code, 4, (Option.some Jvm.ClassFile.FieldType.int), 9, 3, false),
  (⟨"LastAskedModel", "remembers", "()V"⟩, prog_10_method_113_code, 2, (Option.none : Option Jvm.ClassFile.FieldType), 9, 1, false),
  (⟨"LastAskedModel", "stays", "()V"⟩, prog_10_method_114_code, 2, (Option.none : Option Jvm.ClassFile.FieldType), 9, 1, false),
  (⟨"LastAskedModel", "ask", "(II)I"⟩, prog_10_method_115_code, 4, (Option.some Jvm.ClassFile.FieldType.int), 9, 3, false),
  (⟨"LastAskedModel", "die", "(I)I"⟩, prog_10_method_116_code, 4, (Option.some Jvm.ClassFile.FieldType.int), 9, 2, false),
  (⟨"LastAskedModel", "night", "()I"⟩, prog_10_method_117_code, 2, (Option.some Jvm.ClassFile.FieldType.int), 9, 1, false),
  (⟨"LastAskedModel", "seed", "(I)Z"⟩, prog_10_method_118_code, 2, (Option.some Jvm.ClassFile.FieldType.boolean), 9, 2, false),
  (⟨"LastAskedModel", "undo", "()Z"⟩, prog_10_method_119_code, 2, (Option.some Jvm.ClassFile.FieldType.boolean), 9, 1, false),
  (⟨"LastAskedModel", "image", "()I"⟩, prog_10_method_120_code, 2, (Option.some Jvm.ClassFile.FieldType.int), 9, 1, false),
  (⟨"LastAskedModel", "back", "(I)Z"⟩, prog_10_method_121_code, 3, (Option.some Jvm.ClassFile.FieldType.boolean), 9, 2, false),
  (⟨"LastAskedModel", "led", "(I)I"⟩, prog_10_method_122_code, 4, (Option.some Jvm.ClassFile.FieldType.int), 9, 2, false),
  (⟨"LastAskedModel", "size", "(I)I"⟩, prog_10_method_123_code, 2, (Option.some Jvm.ClassFile.FieldType.int), 9, 2, false),
  (⟨"LastAskedModel", "trouble", "()I"⟩, prog_10_method_124_code, 1, (Option.some Jvm.ClassFile.FieldType.int), 9, 1, false),
  (⟨"java/lang/Integer", "bitCount", "(I)I"⟩, prog_16_method_49_code, 1, (Option.some Jvm.ClassFile.FieldType.int), 10, 1, true)]
def xMs : List xMe := xMs_0 ++ (xMs_1 ++ (xMs_2 ++ (xMs_3 ++ (xMs_4 ++ (xMs_5 ++ (xMs_6))))))
def xE (k : Nat) : xMe := xMs.getD k (⟨"", "", ""⟩, .empty, 0, none, 0, 0, false)
def x_meP (e : xMe) : Prop := Cond.code e.1 e.2.1 e.2.2.1 e.2.2.2.1 ∈ lw_tbl ∧ Cond.initialized e.1.cls ∈ lw_tbl ∧ (e.2.2.2.2.2.2 = true → Cond.static e.1 ∈ lw_tbl) ∧ (e.2.2.2.2.2.2 = false → Cond.instanceMethod e.1 ∈ lw_tbl ∧ (e.1.name = "<init>" ∨ Cond.selects e.1.cls e.1 e.1 ∈ lw_tbl)) ∧ plainName e.1.cls = true ∧ e.1.cls = xR e.2.2.2.2.1 ∧
  (e.1.cls ≠ "java/lang/invoke/MethodHandle" ∧ e.1.cls ≠ "java/lang/invoke/VarHandle" ∧ (parseMethodDescriptor e.1.desc).map (fun d => d.parameters.length + (if e.2.2.2.2.2.2 then 0 else 1)) = some e.2.2.2.2.2.1) ∧ e.2.2.1 ≤ 23 ∧ (e.1.name = "<init>" → e.2.2.2.1 = none)
theorem x_t {w : Cond} (i : Nat) (h : tables_1[i]? = some w) : w ∈ lw_tbl := List.mem_append_right _ (List.mem_of_getElem? h)
theorem x_s {w : Cond} (i : Nat) (h : (k2_sels lw_privs)[i]? = some w) : w ∈ lw_tbl := List.mem_append_left _ (List.mem_of_getElem? h)
end
section
set_option maxRecDepth 30000 in
theorem x_me0 : x_meP (xE 0) := ⟨x_t 40 rfl, x_t 3 rfl, fun h => absurd h (by decide), fun _ => ⟨x_t 39 rfl, Or.inl rfl⟩, by decide +kernel, by decide +kernel, by decide +kernel, by decide +kernel, by decide +kernel⟩
set_option maxRecDepth 30000 in
theorem x_me1 : x_meP (xE 1) := ⟨x_t 344 rfl, x_t 3 rfl, fun h => absurd h (by decide), fun _ => ⟨x_t 342 rfl, Or.inr (x_t 343 rfl)⟩, by decide +kernel, by decide +kernel, by decide +kernel, by decide +kernel, by decide +kernel⟩
set_option maxRecDepth 30000 in
theorem x_me2 : x_meP (xE 2) := ⟨x_t 462 rfl, x_t 3 rfl, fun h => absurd h (by decide), fun _ => ⟨x_t 460 rfl, Or.inr (x_t 461 rfl)⟩, by decide +kernel, by decide +kernel, by decide +kernel, by decide +kernel, by decide +kernel⟩
set_option maxRecDepth 30000 in
theorem x_me3 : x_meP (xE 3) := ⟨x_t 473 rfl, x_t 3 rfl, fun h => absurd h (by decide), fun _ => ⟨x_t 471 rfl, Or.inr (x_t 472 rfl)⟩, by decide +kernel, by decide +kernel, by decide +kernel, by decide +kernel, by decide +kernel⟩
set_option maxRecDepth 30000 in
theorem x_me4 : x_meP (xE 4) := ⟨x_t 441 rfl, x_t 3 rfl, fun h => absurd h (by decide), fun _ => ⟨x_t 439 rfl, Or.inr (x_t 440 rfl)⟩, by decide +kernel, by decide +kernel, by decide +kernel, by decide +kernel, by decide +kernel⟩
set_option maxRecDepth 30000 in
theorem x_me5 : x_meP (xE 5) := ⟨x_t 456 rfl, x_t 3 rfl, fun h => absurd h (by decide), fun _ => ⟨x_t 454 rfl, Or.inr (x_t 455 rfl)⟩, by decide +kernel, by decide +kernel, by decide +kernel, by decide +kernel, by decide +kernel⟩
set_option maxRecDepth 30000 in
theorem x_me6 : x_meP (xE 6) := ⟨x_t 266 rfl, x_t 8 rfl, fun h => absurd h (by decide), fun _ => ⟨x_t 265 rfl, Or.inl rfl⟩, by decide +kernel, by decide +kernel, by decide +kernel, by decide +kernel, by decide +kernel⟩
set_option maxRecDepth 30000 in
theorem x_me7 : x_meP (xE 7) := ⟨x_t 740 rfl, x_t 8 rfl, fun h => absurd h (by decide), fun _ => ⟨x_t 739 rfl, Or.inr (x_s 41 rfl)⟩, by decide +kernel, by decide +kernel, by decide +kernel, by decide +kernel, by decide +kernel⟩
set_option maxRecDepth 30000 in
theorem x_me8 : x_meP (xE 8) := ⟨x_t 752 rfl, x_t 8 rfl, fun h => absurd h (by decide), fun _ => ⟨x_t 750 rfl, Or.inr (x_t 751 rfl)⟩, by decide +kernel, by decide +kernel, by decide +kernel, by decide +kernel, by decide +kernel⟩
set_option maxRecDepth 30000 in
theorem x_me9 : x_meP (xE 9) := ⟨x_t 748 rfl, x_t 8 rfl, fun h => absurd h (by decide), fun _ => ⟨x_t 747 rfl, Or.inr (x_s 42 rfl)⟩, by decide +kernel, by decide +kernel, by decide +kernel, by decide +kernel, by decide +kernel⟩
set_option maxRecDepth 30000 in
theorem x_me10 : x_meP (xE 10) := ⟨x_t 736 rfl, x_t 8 rfl, fun h => absurd h (by decide), fun _ => ⟨x_t 734 rfl, Or.inr (x_t 735 rfl)⟩, by decide +kernel, by decide +kernel, by decide +kernel, by decide +kernel, by decide +kernel⟩
set_option maxRecDepth 30000 in
theorem x_me11 : x_meP (xE 11) := ⟨x_t 762 rfl, x_t 8 rfl, fun h => absurd h (by decide), fun _ => ⟨x_t 760 rfl, Or.inr (x_t 761 rfl)⟩, by decide +kernel, by decide +kernel, by decide +kernel, by decide +kernel, by decide +kernel⟩
set_option maxRecDepth 30000 in
theorem x_me12 : x_meP (xE 12) := ⟨x_t 771 rfl, x_t 8 rfl, fun h => absurd h (by decide), fun _ => ⟨x_t 769 rfl, Or.inr (x_t 770 rfl)⟩, by decide +kernel, by decide +kernel, by decide +kernel, by decide +kernel, by decide +kernel⟩
set_option maxRecDepth 30000 in
theorem x_me13 : x_meP (xE 13) := ⟨x_t 779 rfl, x_t 8 rfl, fun h => absurd h (by decide), fun _ => ⟨x_t 777 rfl, Or.inr (x_t 778 rfl)⟩, by decide +kernel, by decide +kernel, by decide +kernel, by decide +kernel, by decide +kernel⟩
set_option maxRecDepth 30000 in
theorem x_me14 : x_meP (xE 14) := ⟨x_t 783 rfl, x_t 8 rfl, fun h => absurd h (by decide), fun _ => ⟨x_t 782 rfl, Or.inr (x_s 43 rfl)⟩, by decide +kernel, by decide +kernel, by decide +kernel, by decide +kernel, by decide +kernel⟩
set_option maxRecDepth 30000 in
theorem x_me15 : x_meP (xE 15) := ⟨x_t 787 rfl, x_t 8 rfl, fun h => absurd h (by decide), fun _ => ⟨x_t 785 rfl, Or.inr (x_t 786 rfl)⟩, by decide +kernel, by decide +kernel, by decide +kernel, by decide +kernel, by decide +kernel⟩
set_option maxRecDepth 30000 in
theorem x_me16 : x_meP (xE 16) := ⟨x_t 218 rfl, x_t 5 rfl, fun h => absurd h (by decide), fun _ => ⟨x_t 217 rfl, Or.inl rfl⟩, by decide +kernel, by decide +kernel, by decide +kernel, by decide +kernel, by decide +kernel⟩
set_option maxRecDepth 30000 in
theorem x_me17 : x_meP (xE 17) := ⟨x_t 478 rfl, x_t 5 rfl, fun h => absurd h (by decide), fun _ => ⟨x_t 476 rfl, Or.inr (x_t 477 rfl)⟩, by decide +kernel, by decide +kernel, by decide +kernel, by decide +kernel, by decide +kernel⟩
set_option maxRecDepth 30000 in
theorem x_me18 : x_meP (xE 18) := ⟨x_t 866 rfl, x_t 5 rfl, fun h => absurd h (by decide), fun _ => ⟨x_t 864 rfl, Or.inr (x_t 865 rfl)⟩, by decide +kernel, by decide +kernel, by decide +kernel, by decide +kernel, by decide +kernel⟩
set_option maxRecDepth 30000 in
theorem x_me19 : x_meP (xE 19) := ⟨x_t 888 rfl, x_t 5 rfl, fun h => absurd h (by decide), fun _ => ⟨x_t 886 rfl, Or.inr (x_t 887 rfl)⟩, by decide +kernel, by decide +kernel, by decide +kernel, by decide +kernel, by decide +kernel⟩
set_option maxRecDepth 30000 in
theorem x_me20 : x_meP (xE 20) := ⟨x_t 896 rfl, x_t 5 rfl, fun h => absurd h (by decide), fun _ => ⟨x_t 894 rfl, Or.inr (x_t 895 rfl)⟩, by decide +kernel, by decide +kernel, by decide +kernel, by decide +kernel, by decide +kernel⟩
set_option maxRecDepth 30000 in
theorem x_me21 : x_meP (xE 21) := ⟨x_t 904 rfl, x_t 5 rfl, fun h => absurd h (by decide), fun _ => ⟨x_t 902 rfl, Or.inr (x_t 903 rfl)⟩, by decide +kernel, by decide +kernel, by decide +kernel, by decide +kernel, by decide +kernel⟩
set_option maxRecDepth 30000 in
theorem x_me22 : x_meP (xE 22) := ⟨x_t 34 rfl, x_t 2 rfl, fun h => absurd h (by decide), fun _ => ⟨x_t 33 rfl, Or.inl rfl⟩, by decide +kernel, by decide +kernel, by decide +kernel, by decide +kernel, by decide +kernel⟩
set_option maxRecDepth 30000 in
theorem x_me23 : x_meP (xE 23) := ⟨x_t 325 rfl, x_t 2 rfl, fun h => absurd h (by decide), fun _ => ⟨x_t 323 rfl, Or.inr (x_t 324 rfl)⟩, by decide +kernel, by decide +kernel, by decide +kernel, by decide +kernel, by decide +kernel⟩
set_option maxRecDepth 30000 in
theorem x_me24 : x_meP (xE 24) := ⟨x_t 337 rfl, x_t 2 rfl, fun h => absurd h (by decide), fun _ => ⟨x_t 335 rfl, Or.inr (x_t 336 rfl)⟩, by decide +kernel, by decide +kernel, by decide +kernel, by decide +kernel, by decide +kernel⟩
set_option maxRecDepth 30000 in
theorem x_me25 : x_meP (xE 25) := ⟨x_t 369 rfl, x_t 2 rfl, fun h => absurd h (by decide), fun _ => ⟨x_t 368 rfl, Or.inr (x_s 6 rfl)⟩, by decide +kernel, by decide +kernel, by decide +kernel, by decide +kernel, by decide +kernel⟩
set_option maxRecDepth 30000 in
theorem x_me26 : x_meP (xE 26) := ⟨x_t 352 rfl, x_t 2 rfl, fun h => absurd h (by decide), fun _ => ⟨x_t 351 rfl, Or.inr (x_s 2 rfl)⟩, by decide +kernel, by decide +kernel, by decide +kernel, by decide +kernel, by decide +kernel⟩
set_option maxRecDepth 30000 in
theorem x_me27 : x_meP (xE 27) := ⟨x_t 356 rfl, x_t 2 rfl, fun h => absurd h (by decide), fun _ => ⟨x_t 355 rfl, Or.inr (x_s 3 rfl)⟩, by decide +kernel, by decide +kernel, by decide +kernel, by decide +kernel, by decide +kernel⟩
set_option maxRecDepth 30000 in
theorem x_me28 : x_meP (xE 28) := ⟨x_t 360 rfl, x_t 2 rfl, fun h => absurd h (by decide), fun _ => ⟨x_t 359 rfl, Or.inr (x_s 4 rfl)⟩, by decide +kernel, by decide +kernel, by decide +kernel, by decide +kernel, by decide +kernel⟩
set_option maxRecDepth 30000 in
theorem x_me29 : x_meP (xE 29) := ⟨x_t 365 rfl, x_t 2 rfl, fun h => absurd h (by decide), fun _ => ⟨x_t 364 rfl, Or.inr (x_s 5 rfl)⟩, by decide +kernel, by decide +kernel, by decide +kernel, by decide +kernel, by decide +kernel⟩
set_option maxRecDepth 30000 in
theorem x_me30 : x_meP (xE 30) := ⟨x_t 378 rfl, x_t 2 rfl, fun h => absurd h (by decide), fun _ => ⟨x_t 377 rfl, Or.inr (x_s 8 rfl)⟩, by decide +kernel, by decide +kernel, by decide +kernel, by decide +kernel, by decide +kernel⟩
set_option maxRecDepth 30000 in
theorem x_me31 : x_meP (xE 31) := ⟨x_t 382 rfl, x_t 2 rfl, fun h => absurd h (by decide), fun _ => ⟨x_t 381 rfl, Or.inr (x_s 9 rfl)⟩, by decide +kernel, by decide +kernel, by decide +kernel, by decide +kernel, by decide +kernel⟩
set_option maxRecDepth 30000 in
theorem x_me32 : x_meP (xE 32) := ⟨x_t 396 rfl, x_t 2 rfl, fun h => absurd h (by decide), fun _ => ⟨x_t 395 rfl, Or.inr (x_s 11 rfl)⟩, by decide +kernel, by decide +kernel, by decide +kernel, by decide +kernel, by decide +kernel⟩
set_option maxRecDepth 30000 in
theorem x_me33 : x_meP (xE 33) := ⟨x_t 401 rfl, x_t 2 rfl, fun h => absurd h (by decide), fun _ => ⟨x_t 400 rfl, Or.inr (x_s 12 rfl)⟩, by decide +kernel, by decide +kernel, by decide +kernel, by decide +kernel, by decide +kernel⟩
set_option maxRecDepth 30000 in
theorem x_me34 : x_meP (xE 34) := ⟨x_t 423 rfl, x_t 2 rfl, fun h => absurd h (by decide), fun _ => ⟨x_t 422 rfl, Or.inr (x_s 16 rfl)⟩, by decide +kernel, by decide +kernel, by decide +kernel, by decide +kernel, by decide +kernel⟩
set_option maxRecDepth 30000 in
theorem x_me35 : x_meP (xE 35) := ⟨x_t 419 rfl, x_t 2 rfl, fun h => absurd h (by decide), fun _ => ⟨x_t 418 rfl, Or.inr (x_s 15 rfl)⟩, by decide +kernel, by decide +kernel, by decide +kernel, by decide +kernel, by decide +kernel⟩
set_option maxRecDepth 30000 in
theorem x_me36 : x_meP (xE 36) := ⟨x_t 348 rfl, x_t 2 rfl, fun h => absurd h (by decide), fun _ => ⟨x_t 347 rfl, Or.inr (x_s 1 rfl)⟩, by decide +kernel, by decide +kernel, by decide +kernel, by decide +kernel, by decide +kernel⟩
set_option maxRecDepth 30000 in
theorem x_me37 : x_meP (xE 37) := ⟨x_t 373 rfl, x_t 2 rfl, fun h => absurd h (by decide), fun _ => ⟨x_t 372 rfl, Or.inr (x_s 7 rfl)⟩, by decide +kernel, by decide +kernel, by decide +kernel, by decide +kernel, by decide +kernel⟩
set_option maxRecDepth 30000 in
theorem x_me38 : x_meP (xE 38) := ⟨x_t 392 rfl, x_t 2 rfl, fun h => absurd h (by decide), fun _ => ⟨x_t 391 rfl, Or.inr (x_s 10 rfl)⟩, by decide +kernel, by decide +kernel, by decide +kernel, by decide +kernel, by decide +kernel⟩
set_option maxRecDepth 30000 in
theorem x_me39 : x_meP (xE 39) := ⟨x_t 405 rfl, x_t 2 rfl, fun h => absurd h (by decide), fun _ => ⟨x_t 404 rfl, Or.inr (x_s 13 rfl)⟩, by decide +kernel, by decide +kernel, by decide +kernel, by decide +kernel, by decide +kernel⟩
set_option maxRecDepth 30000 in
theorem x_me40 : x_meP (xE 40) := ⟨x_t 415 rfl, x_t 2 rfl, fun h => absurd h (by decide), fun _ => ⟨x_t 414 rfl, Or.inr (x_s 14 rfl)⟩, by decide +kernel, by decide +kernel, by decide +kernel, by decide +kernel, by decide +kernel⟩
set_option maxRecDepth 30000 in
theorem x_me41 : x_meP (xE 41) := ⟨x_t 434 rfl, x_t 2 rfl, fun h => absurd h (by decide), fun _ => ⟨x_t 433 rfl, Or.inr (x_s 18 rfl)⟩, by decide +kernel, by decide +kernel, by decide +kernel, by decide +kernel, by decide +kernel⟩
set_option maxRecDepth 30000 in
theorem x_me42 : x_meP (xE 42) := ⟨x_t 430 rfl, x_t 2 rfl, fun h => absurd h (by decide), fun _ => ⟨x_t 429 rfl, Or.inr (x_s 17 rfl)⟩, by decide +kernel, by decide +kernel, by decide +kernel, by decide +kernel, by decide +kernel⟩
set_option maxRecDepth 30000 in
theorem x_me43 : x_meP (xE 43) := ⟨x_t 447 rfl, x_t 2 rfl, fun h => absurd h (by decide), fun _ => ⟨x_t 446 rfl, Or.inr (x_s 19 rfl)⟩, by decide +kernel, by decide +kernel, by decide +kernel, by decide +kernel, by decide +kernel⟩
set_option maxRecDepth 30000 in
theorem x_me44 : x_meP (xE 44) := ⟨x_t 452 rfl, x_t 2 rfl, fun h => absurd h (by decide), fun _ => ⟨x_t 451 rfl, Or.inr (x_s 20 rfl)⟩, by decide +kernel, by decide +kernel, by decide +kernel, by decide +kernel, by decide +kernel⟩
set_option maxRecDepth 30000 in
theorem x_me45 : x_meP (xE 45) := ⟨x_t 183 rfl, x_t 4 rfl, fun h => absurd h (by decide), fun _ => ⟨x_t 182 rfl, Or.inl rfl⟩, by decide +kernel, by decide +kernel, by decide +kernel, by decide +kernel, by decide +kernel⟩
set_option maxRecDepth 30000 in
theorem x_me46 : x_meP (xE 46) := ⟨x_t 469 rfl, x_t 4 rfl, fun h => absurd h (by decide), fun _ => ⟨x_t 467 rfl, Or.inr (x_t 468 rfl)⟩, by decide +kernel, by decide +kernel, by decide +kernel, by decide +kernel, by decide +kernel⟩
set_option maxRecDepth 30000 in
theorem x_me47 : x_meP (xE 47) := ⟨x_t 675 rfl, x_t 4 rfl, fun h => absurd h (by decide), fun _ => ⟨x_t 673 rfl, Or.inr (x_t 674 rfl)⟩, by decide +kernel, by decide +kernel, by decide +kernel, by decide +kernel, by decide +kernel⟩
set_option maxRecDepth 30000 in
theorem x_me48 : x_meP (xE 48) := ⟨x_t 498 rfl, x_t 4 rfl, fun h => absurd h (by decide), fun _ => ⟨x_t 496 rfl, Or.inr (x_t 497 rfl)⟩, by decide +kernel, by decide +kernel, by decide +kernel, by decide +kernel, by decide +kernel⟩
set_option maxRecDepth 30000 in
theorem x_me49 : x_meP (xE 49) := ⟨x_t 679 rfl, x_t 4 rfl, fun h => absurd h (by decide), fun _ => ⟨x_t 677 rfl, Or.inr (x_t 678 rfl)⟩, by decide +kernel, by decide +kernel, by decide +kernel, by decide +kernel, by decide +kernel⟩
set_option maxRecDepth 30000 in
theorem x_me50 : x_meP (xE 50) := ⟨x_t 840 rfl, x_t 4 rfl, fun h => absurd h (by decide), fun _ => ⟨x_t 838 rfl, Or.inr (x_t 839 rfl)⟩, by decide +kernel, by decide +kernel, by decide +kernel, by decide +kernel, by decide +kernel⟩
set_option maxRecDepth 30000 in
theorem x_me51 : x_meP (xE 51) := ⟨x_t 845 rfl, x_t 4 rfl, fun h => absurd h (by decide), fun _ => ⟨x_t 843 rfl, Or.inr (x_t 844 rfl)⟩, by decide +kernel, by decide +kernel, by decide +kernel, by decide +kernel, by decide +kernel⟩
set_option maxRecDepth 30000 in
theorem x_me52 : x_meP (xE 52) := ⟨x_t 256 rfl, x_t 7 rfl, fun h => absurd h (by decide), fun _ => ⟨x_t 255 rfl, Or.inl rfl⟩, by decide +kernel, by decide +kernel, by decide +kernel, by decide +kernel, by decide +kernel⟩
set_option maxRecDepth 30000 in
theorem x_me53 : x_meP (xE 53) := ⟨x_t 697 rfl, x_t 7 rfl, fun h => absurd h (by decide), fun _ => ⟨x_t 695 rfl, Or.inr (x_t 696 rfl)⟩, by decide +kernel, by decide +kernel, by decide +kernel, by decide +kernel, by decide +kernel⟩
set_option maxRecDepth 30000 in
theorem x_me54 : x_meP (xE 54) := ⟨x_t 702 rfl, x_t 7 rfl, fun h => absurd h (by decide), fun _ => ⟨x_t 701 rfl, Or.inr (x_s 39 rfl)⟩, by decide +kernel, by decide +kernel, by decide +kernel, by decide +kernel, by decide +kernel⟩
set_option maxRecDepth 30000 in
theorem x_me55 : x_meP (xE 55) := ⟨x_t 708 rfl, x_t 7 rfl, fun h => absurd h (by decide), fun _ => ⟨x_t 706 rfl, Or.inr (x_t 707 rfl)⟩, by decide +kernel, by decide +kernel, by decide +kernel, by decide +kernel, by decide +kernel⟩
set_option maxRecDepth 30000 in
theorem x_me56 : x_meP (xE 56) := ⟨x_t 245 rfl, x_t 6 rfl, fun h => absurd h (by decide), fun _ => ⟨x_t 244 rfl, Or.inl rfl⟩, by decide +kernel, by decide +kernel, by decide +kernel, by decide +kernel, by decide +kernel⟩
set_option maxRecDepth 30000 in
theorem x_me57 : x_meP (xE 57) := ⟨x_t 533 rfl, x_t 6 rfl, fun h => absurd h (by decide), fun _ => ⟨x_t 531 rfl, Or.inr (x_t 532 rfl)⟩, by decide +kernel, by decide +kernel, by decide +kernel, by decide +kernel, by decide +kernel⟩
set_option maxRecDepth 30000 in
theorem x_me58 : x_meP (xE 58) := ⟨x_t 537 rfl, x_t 6 rfl, fun _ => x_t 536 rfl, fun h => absurd h (by decide), by decide +kernel, by decide +kernel, by decide +kernel, by decide +kernel, by decide +kernel⟩
set_option maxRecDepth 30000 in
theorem x_me59 : x_meP (xE 59) := ⟨x_t 559 rfl, x_t 6 rfl, fun h => absurd h (by decide), fun _ => ⟨x_t 557 rfl, Or.inr (x_t 558 rfl)⟩, by decide +kernel, by decide +kernel, by decide +kernel, by decide +kernel, by decide +kernel⟩
set_option maxRecDepth 30000 in
theorem x_me60 : x_meP (xE 60) := ⟨x_t 611 rfl, x_t 6 rfl, fun h => absurd h (by decide), fun _ => ⟨x_t 609 rfl, Or.inr (x_t 610 rfl)⟩, by decide +kernel, by decide +kernel, by decide +kernel, by decide +kernel, by decide +kernel⟩
set_option maxRecDepth 30000 in
theorem x_me61 : x_meP (xE 61) := ⟨x_t 652 rfl, x_t 6 rfl, fun h => absurd h (by decide), fun _ => ⟨x_t 650 rfl, Or.inr (x_t 651 rfl)⟩, by decide +kernel, by decide +kernel, by decide +kernel, by decide +kernel, by decide +kernel⟩
set_option maxRecDepth 30000 in
theorem x_me62 : x_meP (xE 62) := ⟨x_t 599 rfl, x_t 6 rfl, fun h => absurd h (by decide), fun _ => ⟨x_t 597 rfl, Or.inr (x_t 598 rfl)⟩, by decide +kernel, by decide +kernel, by decide +kernel, by decide +kernel, by decide +kernel⟩
set_option maxRecDepth 30000 in
theorem x_me63 : x_meP (xE 63) := ⟨x_t 26 rfl, x_t 1 rfl, fun h => absurd h (by decide), fun _ => ⟨x_t 25 rfl, Or.inl rfl⟩, by decide +kernel, by decide +kernel, by decide +kernel, by decide +kernel, by decide +kernel⟩
set_option maxRecDepth 30000 in
theorem x_me64 : x_meP (xE 64) := ⟨x_t 321 rfl, x_t 1 rfl, fun h => absurd h (by decide), fun _ => ⟨x_t 319 rfl, Or.inr (x_t 320 rfl)⟩, by decide +kernel, by decide +kernel, by decide +kernel, by decide +kernel, by decide +kernel⟩
set_option maxRecDepth 30000 in
theorem x_me65 : x_meP (xE 65) := ⟨x_t 329 rfl, x_t 1 rfl, fun h => absurd h (by decide), fun _ => ⟨x_t 327 rfl, Or.inr (x_t 328 rfl)⟩, by decide +kernel, by decide +kernel, by decide +kernel, by decide +kernel, by decide +kernel⟩
set_option maxRecDepth 30000 in
theorem x_me66 : x_meP (xE 66) := ⟨x_t 482 rfl, x_t 1 rfl, fun h => absurd h (by decide), fun _ => ⟨x_t 480 rfl, Or.inr (x_t 481 rfl)⟩, by decide +kernel, by decide +kernel, by decide +kernel, by decide +kernel, by decide +kernel⟩
set_option maxRecDepth 30000 in
theorem x_me67 : x_meP (xE 67) := ⟨x_t 486 rfl, x_t 1 rfl, fun h => absurd h (by decide), fun _ => ⟨x_t 484 rfl, Or.inr (x_t 485 rfl)⟩, by decide +kernel, by decide +kernel, by decide +kernel, by decide +kernel, by decide +kernel⟩
set_option maxRecDepth 30000 in
theorem x_me68 : x_meP (xE 68) := ⟨x_t 490 rfl, x_t 1 rfl, fun h => absurd h (by decide), fun _ => ⟨x_t 488 rfl, Or.inr (x_t 489 rfl)⟩, by decide +kernel, by decide +kernel, by decide +kernel, by decide +kernel, by decide +kernel⟩
set_option maxRecDepth 30000 in
theorem x_me69 : x_meP (xE 69) := ⟨x_t 512 rfl, x_t 1 rfl, fun h => absurd h (by decide), fun _ => ⟨x_t 510 rfl, Or.inr (x_t 511 rfl)⟩, by decide +kernel, by decide +kernel, by decide +kernel, by decide +kernel, by decide +kernel⟩
set_option maxRecDepth 30000 in
theorem x_me70 : x_meP (xE 70) := ⟨x_t 521 rfl, x_t 1 rfl, fun h => absurd h (by decide), fun _ => ⟨x_t 519 rfl, Or.inr (x_t 520 rfl)⟩, by decide +kernel, by decide +kernel, by decide +kernel, by decide +kernel, by decide +kernel⟩
set_option maxRecDepth 30000 in
theorem x_me71 : x_meP (xE 71) := ⟨x_t 542 rfl, x_t 1 rfl, fun h => absurd h (by decide), fun _ => ⟨x_t 540 rfl, Or.inr (x_t 541 rfl)⟩, by decide +kernel, by decide +kernel, by decide +kernel, by decide +kernel, by decide +kernel⟩
set_option maxRecDepth 30000 in
theorem x_me72 : x_meP (xE 72) := ⟨x_t 550 rfl, x_t 1 rfl, fun h => absurd h (by decide), fun _ => ⟨x_t 548 rfl, Or.inr (x_t 549 rfl)⟩, by decide +kernel, by decide +kernel, by decide +kernel, by decide +kernel, by decide +kernel⟩
set_option maxRecDepth 30000 in
theorem x_me73 : x_meP (xE 73) := ⟨x_t 563 rfl, x_t 1 rfl, fun h => absurd h (by decide), fun _ => ⟨x_t 561 rfl, Or.inr (x_t 562 rfl)⟩, by decide +kernel, by decide +kernel, by decide +kernel, by decide +kernel, by decide +kernel⟩
set_option maxRecDepth 30000 in
theorem x_me74 : x_meP (xE 74) := ⟨x_t 571 rfl, x_t 1 rfl, fun h => absurd h (by decide), fun _ => ⟨x_t 569 rfl, Or.inr (x_t 570 rfl)⟩, by decide +kernel, by decide +kernel, by decide +kernel, by decide +kernel, by decide +kernel⟩
set_option maxRecDepth 30000 in
theorem x_me75 : x_meP (xE 75) := ⟨x_t 579 rfl, x_t 1 rfl, fun h => absurd h (by decide), fun _ => ⟨x_t 577 rfl, Or.inr (x_t 578 rfl)⟩, by decide +kernel, by decide +kernel, by decide +kernel, by decide +kernel, by decide +kernel⟩
set_option maxRecDepth 30000 in
theorem x_me76 : x_meP (xE 76) := ⟨x_t 587 rfl, x_t 1 rfl, fun h => absurd h (by decide), fun _ => ⟨x_t 585 rfl, Or.inr (x_t 586 rfl)⟩, by decide +kernel, by decide +kernel, by decide +kernel, by decide +kernel, by decide +kernel⟩
set_option maxRecDepth 30000 in
theorem x_me77 : x_meP (xE 77) := ⟨x_t 591 rfl, x_t 1 rfl, fun h => absurd h (by decide), fun _ => ⟨x_t 589 rfl, Or.inr (x_t 590 rfl)⟩, by decide +kernel, by decide +kernel, by decide +kernel, by decide +kernel, by decide +kernel⟩
set_option maxRecDepth 30000 in
theorem x_me78 : x_meP (xE 78) := ⟨x_t 595 rfl, x_t 1 rfl, fun h => absurd h (by decide), fun _ => ⟨x_t 593 rfl, Or.inr (x_t 594 rfl)⟩, by decide +kernel, by decide +kernel, by decide +kernel, by decide +kernel, by decide +kernel⟩
set_option maxRecDepth 30000 in
theorem x_me79 : x_meP (xE 79) := ⟨x_t 603 rfl, x_t 1 rfl, fun h => absurd h (by decide), fun _ => ⟨x_t 601 rfl, Or.inr (x_t 602 rfl)⟩, by decide +kernel, by decide +kernel, by decide +kernel, by decide +kernel, by decide +kernel⟩
set_option maxRecDepth 30000 in
theorem x_me80 : x_meP (xE 80) := ⟨x_t 607 rfl, x_t 1 rfl, fun h => absurd h (by decide), fun _ => ⟨x_t 605 rfl, Or.inr (x_t 606 rfl)⟩, by decide +kernel, by decide +kernel, by decide +kernel, by decide +kernel, by decide +kernel⟩
set_option maxRecDepth 30000 in
theorem x_me81 : x_meP (xE 81) := ⟨x_t 615 rfl, x_t 1 rfl, fun h => absurd h (by decide), fun _ => ⟨x_t 613 rfl, Or.inr (x_t 614 rfl)⟩, by decide +kernel, by decide +kernel, by decide +kernel, by decide +kernel, by decide +kernel⟩
set_option maxRecDepth 30000 in
theorem x_me82 : x_meP (xE 82) := ⟨x_t 636 rfl, x_t 1 rfl, fun h => absurd h (by decide), fun _ => ⟨x_t 634 rfl, Or.inr (x_t 635 rfl)⟩, by decide +kernel, by decide +kernel, by decide +kernel, by decide +kernel, by decide +kernel⟩
set_option maxRecDepth 30000 in
theorem x_me83 : x_meP (xE 83) := ⟨x_t 644 rfl, x_t 1 rfl, fun h => absurd h (by decide), fun _ => ⟨x_t 642 rfl, Or.inr (x_t 643 rfl)⟩, by decide +kernel, by decide +kernel, by decide +kernel, by decide +kernel, by decide +kernel⟩
set_option maxRecDepth 30000 in
theorem x_me84 : x_meP (xE 84) := ⟨x_t 648 rfl, x_t 1 rfl, fun h => absurd h (by decide), fun _ => ⟨x_t 646 rfl, Or.inr (x_t 647 rfl)⟩, by decide +kernel, by decide +kernel, by decide +kernel, by decide +kernel, by decide +kernel⟩
set_option maxRecDepth 30000 in
theorem x_me85 : x_meP (xE 85) := ⟨x_t 656 rfl, x_t 1 rfl, fun h => absurd h (by decide), fun _ => ⟨x_t 654 rfl, Or.inr (x_t 655 rfl)⟩, by decide +kernel, by decide +kernel, by decide +kernel, by decide +kernel, by decide +kernel⟩
set_option maxRecDepth 30000 in
theorem x_me86 : x_meP (xE 86) := ⟨x_t 685 rfl, x_t 1 rfl, fun h => absurd h (by decide), fun _ => ⟨x_t 683 rfl, Or.inr (x_t 684 rfl)⟩, by decide +kernel, by decide +kernel, by decide +kernel, by decide +kernel, by decide +kernel⟩
set_option maxRecDepth 30000 in
theorem x_me87 : x_meP (xE 87) := ⟨x_t 689 rfl, x_t 1 rfl, fun h => absurd h (by decide), fun _ => ⟨x_t 687 rfl, Or.inr (x_t 688 rfl)⟩, by decide +kernel, by decide +kernel, by decide +kernel, by decide +kernel, by decide +kernel⟩
set_option maxRecDepth 30000 in
theorem x_me88 : x_meP (xE 88) := ⟨x_t 716 rfl, x_t 1 rfl, fun h => absurd h (by decide), fun _ => ⟨x_t 714 rfl, Or.inr (x_t 715 rfl)⟩, by decide +kernel, by decide +kernel, by decide +kernel, by decide +kernel, by decide +kernel⟩
set_option maxRecDepth 30000 in
theorem x_me89 : x_meP (xE 89) := ⟨x_t 720 rfl, x_t 1 rfl, fun h => absurd h (by decide), fun _ => ⟨x_t 718 rfl, Or.inr (x_t 719 rfl)⟩, by decide +kernel, by decide +kernel, by decide +kernel, by decide +kernel, by decide +kernel⟩
set_option maxRecDepth 30000 in
theorem x_me90 : x_meP (xE 90) := ⟨x_t 724 rfl, x_t 1 rfl, fun h => absurd h (by decide), fun _ => ⟨x_t 722 rfl, Or.inr (x_t 723 rfl)⟩, by decide +kernel, by decide +kernel, by decide +kernel, by decide +kernel, by decide +kernel⟩
set_option maxRecDepth 30000 in
theorem x_me91 : x_meP (xE 91) := ⟨x_t 728 rfl, x_t 1 rfl, fun h => absurd h (by decide), fun _ => ⟨x_t 726 rfl, Or.inr (x_t 727 rfl)⟩, by decide +kernel, by decide +kernel, by decide +kernel, by decide +kernel, by decide +kernel⟩
set_option maxRecDepth 30000 in
theorem x_me92 : x_meP (xE 92) := ⟨x_t 732 rfl, x_t 1 rfl, fun h => absurd h (by decide), fun _ => ⟨x_t 730 rfl, Or.inr (x_t 731 rfl)⟩, by decide +kernel, by decide +kernel, by decide +kernel, by decide +kernel, by decide +kernel⟩
set_option maxRecDepth 30000 in
theorem x_me93 : x_meP (xE 93) := ⟨x_t 758 rfl, x_t 1 rfl, fun h => absurd h (by decide), fun _ => ⟨x_t 756 rfl, Or.inr (x_t 757 rfl)⟩, by decide +kernel, by decide +kernel, by decide +kernel, by decide +kernel, by decide +kernel⟩
set_option maxRecDepth 30000 in
theorem x_me94 : x_meP (xE 94) := ⟨x_t 767 rfl, x_t 1 rfl, fun h => absurd h (by decide), fun _ => ⟨x_t 765 rfl, Or.inr (x_t 766 rfl)⟩, by decide +kernel, by decide +kernel, by decide +kernel, by decide +kernel, by decide +kernel⟩
set_option maxRecDepth 30000 in
theorem x_me95 : x_meP (xE 95) := ⟨x_t 775 rfl, x_t 1 rfl, fun h => absurd h (by decide), fun _ => ⟨x_t 773 rfl, Or.inr (x_t 774 rfl)⟩, by decide +kernel, by decide +kernel, by decide +kernel, by decide +kernel, by decide +kernel⟩
set_option maxRecDepth 30000 in
theorem x_me96 : x_meP (xE 96) := ⟨x_t 791 rfl, x_t 1 rfl, fun h => absurd h (by decide), fun _ => ⟨x_t 789 rfl, Or.inr (x_t 790 rfl)⟩, by decide +kernel, by decide +kernel, by decide +kernel, by decide +kernel, by decide +kernel⟩
set_option maxRecDepth 30000 in
theorem x_me97 : x_meP (xE 97) := ⟨x_t 796 rfl, x_t 1 rfl, fun h => absurd h (by decide), fun _ => ⟨x_t 794 rfl, Or.inr (x_t 795 rfl)⟩, by decide +kernel, by decide +kernel, by decide +kernel, by decide +kernel, by decide +kernel⟩
set_option maxRecDepth 30000 in
theorem x_me98 : x_meP (xE 98) := ⟨x_t 801 rfl, x_t 1 rfl, fun h => absurd h (by decide), fun _ => ⟨x_t 799 rfl, Or.inr (x_t 800 rfl)⟩, by decide +kernel, by decide +kernel, by decide +kernel, by decide +kernel, by decide +kernel⟩
set_option maxRecDepth 30000 in
theorem x_me99 : x_meP (xE 99) := ⟨x_t 812 rfl, x_t 1 rfl, fun h => absurd h (by decide), fun _ => ⟨x_t 810 rfl, Or.inr (x_t 811 rfl)⟩, by decide +kernel, by decide +kernel, by decide +kernel, by decide +kernel, by decide +kernel⟩
set_option maxRecDepth 30000 in
theorem x_me100 : x_meP (xE 100) := ⟨x_t 819 rfl, x_t 1 rfl, fun h => absurd h (by decide), fun _ => ⟨x_t 817 rfl, Or.inr (x_t 818 rfl)⟩, by decide +kernel, by decide +kernel, by decide +kernel, by decide +kernel, by decide +kernel⟩
set_option maxRecDepth 30000 in
theorem x_me101 : x_meP (xE 101) := ⟨x_t 823 rfl, x_t 1 rfl, fun h => absurd h (by decide), fun _ => ⟨x_t 821 rfl, Or.inr (x_t 822 rfl)⟩, by decide +kernel, by decide +kernel, by decide +kernel, by decide +kernel, by decide +kernel⟩
set_option maxRecDepth 30000 in
theorem x_me102 : x_meP (xE 102) := ⟨x_t 850 rfl, x_t 1 rfl, fun h => absurd h (by decide), fun _ => ⟨x_t 848 rfl, Or.inr (x_t 849 rfl)⟩, by decide +kernel, by decide +kernel, by decide +kernel, by decide +kernel, by decide +kernel⟩
set_option maxRecDepth 30000 in
theorem x_me103 : x_meP (xE 103) := ⟨x_t 854 rfl, x_t 1 rfl, fun h => absurd h (by decide), fun _ => ⟨x_t 852 rfl, Or.inr (x_t 853 rfl)⟩, by decide +kernel, by decide +kernel, by decide +kernel, by decide +kernel, by decide +kernel⟩
set_option maxRecDepth 30000 in
theorem x_me104 : x_meP (xE 104) := ⟨x_t 858 rfl, x_t 1 rfl, fun h => absurd h (by decide), fun _ => ⟨x_t 856 rfl, Or.inr (x_t 857 rfl)⟩, by decide +kernel, by decide +kernel, by decide +kernel, by decide +kernel, by decide +kernel⟩
set_option maxRecDepth 30000 in
theorem x_me105 : x_meP (xE 105) := ⟨x_t 872 rfl, x_t 1 rfl, fun h => absurd h (by decide), fun _ => ⟨x_t 870 rfl, Or.inr (x_t 871 rfl)⟩, by decide +kernel, by decide +kernel, by decide +kernel, by decide +kernel, by decide +kernel⟩
set_option maxRecDepth 30000 in
theorem x_me106 : x_meP (xE 106) := ⟨x_t 876 rfl, x_t 1 rfl, fun h => absurd h (by decide), fun _ => ⟨x_t 874 rfl, Or.inr (x_t 875 rfl)⟩, by decide +kernel, by decide +kernel, by decide +kernel, by decide +kernel, by decide +kernel⟩
set_option maxRecDepth 30000 in
theorem x_me107 : x_meP (xE 107) := ⟨x_t 880 rfl, x_t 1 rfl, fun h => absurd h (by decide), fun _ => ⟨x_t 878 rfl, Or.inr (x_t 879 rfl)⟩, by decide +kernel, by decide +kernel, by decide +kernel, by decide +kernel, by decide +kernel⟩
set_option maxRecDepth 30000 in
theorem x_me108 : x_meP (xE 108) := ⟨x_t 884 rfl, x_t 1 rfl, fun h => absurd h (by decide), fun _ => ⟨x_t 882 rfl, Or.inr (x_t 883 rfl)⟩, by decide +kernel, by decide +kernel, by decide +kernel, by decide +kernel, by decide +kernel⟩
set_option maxRecDepth 30000 in
theorem x_me109 : x_meP (xE 109) := ⟨x_t 892 rfl, x_t 1 rfl, fun h => absurd h (by decide), fun _ => ⟨x_t 890 rfl, Or.inr (x_t 891 rfl)⟩, by decide +kernel, by decide +kernel, by decide +kernel, by decide +kernel, by decide +kernel⟩
set_option maxRecDepth 30000 in
theorem x_me110 : x_meP (xE 110) := ⟨x_t 900 rfl, x_t 1 rfl, fun h => absurd h (by decide), fun _ => ⟨x_t 898 rfl, Or.inr (x_t 899 rfl)⟩, by decide +kernel, by decide +kernel, by decide +kernel, by decide +kernel, by decide +kernel⟩
set_option maxRecDepth 30000 in
theorem x_me111 : x_meP (xE 111) := ⟨x_t 926 rfl, x_t 1 rfl, fun h => absurd h (by decide), fun _ => ⟨x_t 924 rfl, Or.inr (x_t 925 rfl)⟩, by decide +kernel, by decide +kernel, by decide +kernel, by decide +kernel, by decide +kernel⟩
set_option maxRecDepth 30000 in
theorem x_me112 : x_meP (xE 112) := ⟨x_t 908 rfl, x_t 1 rfl, fun h => absurd h (by decide), fun _ => ⟨x_t 906 rfl, Or.inr (x_t 907 rfl)⟩, by decide +kernel, by decide +kernel, by decide +kernel, by decide +kernel, by decide +kernel⟩
set_option maxRecDepth 30000 in
theorem x_me113 : x_meP (xE 113) := ⟨x_t 918 rfl, x_t 1 rfl, fun h => absurd h (by decide), fun _ => ⟨x_t 916 rfl, Or.inr (x_t 917 rfl)⟩, by decide +kernel, by decide +kernel, by decide +kernel, by decide +kernel, by decide +kernel⟩
set_option maxRecDepth 30000 in
theorem x_me114 : x_meP (xE 114) := ⟨x_t 333 rfl, x_t 1 rfl, fun h => absurd h (by decide), fun _ => ⟨x_t 332 rfl, Or.inr (x_s 0 rfl)⟩, by decide +kernel, by decide +kernel, by decide +kernel, by decide +kernel, by decide +kernel⟩
set_option maxRecDepth 30000 in
theorem x_me115 : x_meP (xE 115) := ⟨x_t 567 rfl, x_t 1 rfl, fun h => absurd h (by decide), fun _ => ⟨x_t 566 rfl, Or.inr (x_s 29 rfl)⟩, by decide +kernel, by decide +kernel, by decide +kernel, by decide +kernel, by decide +kernel⟩
set_option maxRecDepth 30000 in
theorem x_me116 : x_meP (xE 116) := ⟨x_t 494 rfl, x_t 1 rfl, fun h => absurd h (by decide), fun _ => ⟨x_t 493 rfl, Or.inr (x_s 21 rfl)⟩, by decide +kernel, by decide +kernel, by decide +kernel, by decide +kernel, by decide +kernel⟩
set_option maxRecDepth 30000 in
theorem x_me117 : x_meP (xE 117) := ⟨x_t 516 rfl, x_t 1 rfl, fun h => absurd h (by decide), fun _ => ⟨x_t 515 rfl, Or.inr (x_s 24 rfl)⟩, by decide +kernel, by decide +kernel, by decide +kernel, by decide +kernel, by decide +kernel⟩
set_option maxRecDepth 30000 in
theorem x_me118 : x_meP (xE 118) := ⟨x_t 583 rfl, x_t 1 rfl, fun h => absurd h (by decide), fun _ => ⟨x_t 582 rfl, Or.inr (x_s 31 rfl)⟩, by decide +kernel, by decide +kernel, by decide +kernel, by decide +kernel, by decide +kernel⟩
set_option maxRecDepth 30000 in
theorem x_me119 : x_meP (xE 119) := ⟨x_t 525 rfl, x_t 1 rfl, fun h => absurd h (by decide), fun _ => ⟨x_t 524 rfl, Or.inr (x_s 25 rfl)⟩, by decide +kernel, by decide +kernel, by decide +kernel, by decide +kernel, by decide +kernel⟩
set_option maxRecDepth 30000 in
theorem x_me120 : x_meP (xE 120) := ⟨x_t 660 rfl, x_t 1 rfl, fun h => absurd h (by decide), fun _ => ⟨x_t 659 rfl, Or.inr (x_s 35 rfl)⟩, by decide +kernel, by decide +kernel, by decide +kernel, by decide +kernel, by decide +kernel⟩
set_option maxRecDepth 30000 in
theorem x_me121 : x_meP (xE 121) := ⟨x_t 805 rfl, x_t 1 rfl, fun h => absurd h (by decide), fun _ => ⟨x_t 804 rfl, Or.inr (x_s 44 rfl)⟩, by decide +kernel, by decide +kernel, by decide +kernel, by decide +kernel, by decide +kernel⟩
set_option maxRecDepth 30000 in
theorem x_me122 : x_meP (xE 122) := ⟨x_t 827 rfl, x_t 1 rfl, fun h => absurd h (by decide), fun _ => ⟨x_t 826 rfl, Or.inr (x_s 45 rfl)⟩, by decide +kernel, by decide +kernel, by decide +kernel, by decide +kernel, by decide +kernel⟩
set_option maxRecDepth 30000 in
theorem x_me123 : x_meP (xE 123) := ⟨x_t 862 rfl, x_t 1 rfl, fun h => absurd h (by decide), fun _ => ⟨x_t 861 rfl, Or.inr (x_s 48 rfl)⟩, by decide +kernel, by decide +kernel, by decide +kernel, by decide +kernel, by decide +kernel⟩
set_option maxRecDepth 30000 in
theorem x_me124 : x_meP (xE 124) := ⟨x_t 426 rfl, x_t 1 rfl, fun _ => x_t 425 rfl, fun h => absurd h (by decide), by decide +kernel, by decide +kernel, by decide +kernel, by decide +kernel, by decide +kernel⟩
set_option maxRecDepth 30000 in
theorem x_me125 : x_meP (xE 125) := ⟨x_t 437 rfl, x_t 1 rfl, fun _ => x_t 436 rfl, fun h => absurd h (by decide), by decide +kernel, by decide +kernel, by decide +kernel, by decide +kernel, by decide +kernel⟩
set_option maxRecDepth 30000 in
theorem x_me126 : x_meP (xE 126) := ⟨x_t 503 rfl, x_t 1 rfl, fun h => absurd h (by decide), fun _ => ⟨x_t 502 rfl, Or.inr (x_s 22 rfl)⟩, by decide +kernel, by decide +kernel, by decide +kernel, by decide +kernel, by decide +kernel⟩
set_option maxRecDepth 30000 in
theorem x_me127 : x_meP (xE 127) := ⟨x_t 508 rfl, x_t 1 rfl, fun h => absurd h (by decide), fun _ => ⟨x_t 507 rfl, Or.inr (x_s 23 rfl)⟩, by decide +kernel, by decide +kernel, by decide +kernel, by decide +kernel, by decide +kernel⟩
set_option maxRecDepth 30000 in
theorem x_me128 : x_meP (xE 128) := ⟨x_t 575 rfl, x_t 1 rfl, fun h => absurd h (by decide), fun _ => ⟨x_t 574 rfl, Or.inr (x_s 30 rfl)⟩, by decide +kernel, by decide +kernel, by decide +kernel, by decide +kernel, by decide +kernel⟩
set_option maxRecDepth 30000 in
theorem x_me129 : x_meP (xE 129) := ⟨x_t 529 rfl, x_t 1 rfl, fun h => absurd h (by decide), fun _ => ⟨x_t 528 rfl, Or.inr (x_s 26 rfl)⟩, by decide +kernel, by decide +kernel, by decide +kernel, by decide +kernel, by decide +kernel⟩
set_option maxRecDepth 30000 in
theorem x_me130 : x_meP (xE 130) := ⟨x_t 546 rfl, x_t 1 rfl, fun h => absurd h (by decide), fun _ => ⟨x_t 545 rfl, Or.inr (x_s 27 rfl)⟩, by decide +kernel, by decide +kernel, by decide +kernel, by decide +kernel, by decide +kernel⟩
set_option maxRecDepth 30000 in
theorem x_me131 : x_meP (xE 131) := ⟨x_t 554 rfl, x_t 1 rfl, fun h => absurd h (by decide), fun _ => ⟨x_t 553 rfl, Or.inr (x_s 28 rfl)⟩, by decide +kernel, by decide +kernel, by decide +kernel, by decide +kernel, by decide +kernel⟩
set_option maxRecDepth 30000 in
theorem x_me132 : x_meP (xE 132) := ⟨x_t 624 rfl, x_t 1 rfl, fun h => absurd h (by decide), fun _ => ⟨x_t 623 rfl, Or.inr (x_s 33 rfl)⟩, by decide +kernel, by decide +kernel, by decide +kernel, by decide +kernel, by decide +kernel⟩
set_option maxRecDepth 30000 in
theorem x_me133 : x_meP (xE 133) := ⟨x_t 620 rfl, x_t 1 rfl, fun h => absurd h (by decide), fun _ => ⟨x_t 619 rfl, Or.inr (x_s 32 rfl)⟩, by decide +kernel, by decide +kernel, by decide +kernel, by decide +kernel, by decide +kernel⟩
set_option maxRecDepth 30000 in
theorem x_me134 : x_meP (xE 134) := ⟨x_t 640 rfl, x_t 1 rfl, fun h => absurd h (by decide), fun _ => ⟨x_t 639 rfl, Or.inr (x_s 34 rfl)⟩, by decide +kernel, by decide +kernel, by decide +kernel, by decide +kernel, by decide +kernel⟩
set_option maxRecDepth 30000 in
theorem x_me135 : x_meP (xE 135) := ⟨x_t 628 rfl, x_t 1 rfl, fun _ => x_t 627 rfl, fun h => absurd h (by decide), by decide +kernel, by decide +kernel, by decide +kernel, by decide +kernel, by decide +kernel⟩
set_option maxRecDepth 30000 in
theorem x_me136 : x_meP (xE 136) := ⟨x_t 632 rfl, x_t 1 rfl, fun _ => x_t 631 rfl, fun h => absurd h (by decide), by decide +kernel, by decide +kernel, by decide +kernel, by decide +kernel, by decide +kernel⟩
set_option maxRecDepth 30000 in
theorem x_me137 : x_meP (xE 137) := ⟨x_t 664 rfl, x_t 1 rfl, fun h => absurd h (by decide), fun _ => ⟨x_t 663 rfl, Or.inr (x_s 36 rfl)⟩, by decide +kernel, by decide +kernel, by decide +kernel, by decide +kernel, by decide +kernel⟩
set_option maxRecDepth 30000 in
theorem x_me138 : x_meP (xE 138) := ⟨x_t 667 rfl, x_t 1 rfl, fun _ => x_t 666 rfl, fun h => absurd h (by decide), by decide +kernel, by decide +kernel, by decide +kernel, by decide +kernel, by decide +kernel⟩
set_option maxRecDepth 30000 in
theorem x_me139 : x_meP (xE 139) := ⟨x_t 671 rfl, x_t 1 rfl, fun h => absurd h (by decide), fun _ => ⟨x_t 670 rfl, Or.inr (x_s 37 rfl)⟩, by decide +kernel, by decide +kernel, by decide +kernel, by decide +kernel, by decide +kernel⟩
set_option maxRecDepth 30000 in
theorem x_me140 : x_meP (xE 140) := ⟨x_t 693 rfl, x_t 1 rfl, fun h => absurd h (by decide), fun _ => ⟨x_t 692 rfl, Or.inr (x_s 38 rfl)⟩, by decide +kernel, by decide +kernel, by decide +kernel, by decide +kernel, by decide +kernel⟩
set_option maxRecDepth 30000 in
theorem x_me141 : x_meP (xE 141) := ⟨x_t 712 rfl, x_t 1 rfl, fun h => absurd h (by decide), fun _ => ⟨x_t 711 rfl, Or.inr (x_s 40 rfl)⟩, by decide +kernel, by decide +kernel, by decide +kernel, by decide +kernel, by decide +kernel⟩
set_option maxRecDepth 30000 in
theorem x_me142 : x_meP (xE 142) := ⟨x_t 808 rfl, x_t 1 rfl, fun _ => x_t 807 rfl, fun h => absurd h (by decide), by decide +kernel, by decide +kernel, by decide +kernel, by decide +kernel, by decide +kernel⟩
set_option maxRecDepth 30000 in
theorem x_me143 : x_meP (xE 143) := ⟨x_t 815 rfl, x_t 1 rfl, fun _ => x_t 814 rfl, fun h => absurd h (by decide), by decide +kernel, by decide +kernel, by decide +kernel, by decide +kernel, by decide +kernel⟩
set_option maxRecDepth 30000 in
theorem x_me144 : x_meP (xE 144) := ⟨x_t 832 rfl, x_t 1 rfl, fun h => absurd h (by decide), fun _ => ⟨x_t 831 rfl, Or.inr (x_s 46 rfl)⟩, by decide +kernel, by decide +kernel, by decide +kernel, by decide +kernel, by decide +kernel⟩
set_option maxRecDepth 30000 in
theorem x_me145 : x_meP (xE 145) := ⟨x_t 836 rfl, x_t 1 rfl, fun h => absurd h (by decide), fun _ => ⟨x_t 835 rfl, Or.inr (x_s 47 rfl)⟩, by decide +kernel, by decide +kernel, by decide +kernel, by decide +kernel, by decide +kernel⟩
set_option maxRecDepth 30000 in
theorem x_me146 : x_meP (xE 146) := ⟨x_t 1126 rfl, x_t 12 rfl, fun h => absurd h (by decide), fun _ => ⟨x_t 1125 rfl, Or.inl rfl⟩, by decide +kernel, by decide +kernel, by decide +kernel, by decide +kernel, by decide +kernel⟩
set_option maxRecDepth 30000 in
theorem x_me147 : x_meP (xE 147) := ⟨x_t 1309 rfl, x_t 12 rfl, fun h => absurd h (by decide), fun _ => ⟨x_t 1307 rfl, Or.inr (x_t 1308 rfl)⟩, by decide +kernel, by decide +kernel, by decide +kernel, by decide +kernel, by decide +kernel⟩
set_option maxRecDepth 30000 in
theorem x_me148 : x_meP (xE 148) := ⟨x_t 1338 rfl, x_t 12 rfl, fun h => absurd h (by decide), fun _ => ⟨x_t 1336 rfl, Or.inr (x_t 1337 rfl)⟩, by decide +kernel, by decide +kernel, by decide +kernel, by decide +kernel, by decide +kernel⟩
set_option maxRecDepth 30000 in
theorem x_me149 : x_meP (xE 149) := ⟨x_t 992 rfl, x_t 9 rfl, fun h => absurd h (by decide), fun _ => ⟨x_t 991 rfl, Or.inl rfl⟩, by decide +kernel, by decide +kernel, by decide +kernel, by decide +kernel, by decide +kernel⟩
set_option maxRecDepth 30000 in
theorem x_me150 : x_meP (xE 150) := ⟨x_t 1109 rfl, x_t 9 rfl, fun h => absurd h (by decide), fun _ => ⟨x_t 1107 rfl, Or.inr (x_t 1108 rfl)⟩, by decide +kernel, by decide +kernel, by decide +kernel, by decide +kernel, by decide +kernel⟩
set_option maxRecDepth 30000 in
theorem x_me151 : x_meP (xE 151) := ⟨x_t 1121 rfl, x_t 9 rfl, fun h => absurd h (by decide), fun _ => ⟨x_t 1120 rfl, Or.inr (x_s 50 rfl)⟩, by decide +kernel, by decide +kernel, by decide +kernel, by decide +kernel, by decide +kernel⟩
set_option maxRecDepth 30000 in
theorem x_me152 : x_meP (xE 152) := ⟨x_t 1633 rfl, x_t 9 rfl, fun h => absurd h (by decide), fun _ => ⟨x_t 1632 rfl, Or.inr (x_s 103 rfl)⟩, by decide +kernel, by decide +kernel, by decide +kernel, by decide +kernel, by decide +kernel⟩
set_option maxRecDepth 30000 in
theorem x_me153 : x_meP (xE 153) := ⟨x_t 1710 rfl, x_t 9 rfl, fun h => absurd h (by decide), fun _ => ⟨x_t 1709 rfl, Or.inr (x_s 110 rfl)⟩, by decide +kernel, by decide +kernel, by decide +kernel, by decide +kernel, by decide +kernel⟩
set_option maxRecDepth 30000 in
theorem x_me154 : x_meP (xE 154) := ⟨x_t 1361 rfl, x_t 9 rfl, fun h => absurd h (by decide), fun _ => ⟨x_t 1360 rfl, Or.inr (x_s 70 rfl)⟩, by decide +kernel, by decide +kernel, by decide +kernel, by decide +kernel, by decide +kernel⟩
set_option maxRecDepth 30000 in
theorem x_me155 : x_meP (xE 155) := ⟨x_t 1714 rfl, x_t 9 rfl, fun h => absurd h (by decide), fun _ => ⟨x_t 1713 rfl, Or.inr (x_s 111 rfl)⟩, by decide +kernel, by decide +kernel, by decide +kernel, by decide +kernel, by decide +kernel⟩
set_option maxRecDepth 30000 in
theorem x_me156 : x_meP (xE 156) := ⟨x_t 1286 rfl, x_t 9 rfl, fun _ => x_t 1285 rfl, fun h => absurd h (by decide), by decide +kernel, by decide +kernel, by decide +kernel, by decide +kernel, by decide +kernel⟩
set_option maxRecDepth 30000 in
theorem x_me157 : x_meP (xE 157) := ⟨x_t 1326 rfl, x_t 9 rfl, fun _ => x_t 1325 rfl, fun h => absurd h (by decide), by decide +kernel, by decide +kernel, by decide +kernel, by decide +kernel, by decide +kernel⟩
set_option maxRecDepth 30000 in
theorem x_me158 : x_meP (xE 158) := ⟨x_t 1488 rfl, x_t 9 rfl, fun _ => x_t 1487 rfl, fun h => absurd h (by decide), by decide +kernel, by decide +kernel, by decide +kernel, by decide +kernel, by decide +kernel⟩
set_option maxRecDepth 30000 in
theorem x_me159 : x_meP (xE 159) := ⟨x_t 1512 rfl, x_t 9 rfl, fun _ => x_t 1511 rfl, fun h => absurd h (by decide), by decide +kernel, by decide +kernel, by decide +kernel, by decide +kernel, by decide +kernel⟩
set_option maxRecDepth 30000 in
theorem x_me160 : x_meP (xE 160) := ⟨x_t 1509 rfl, x_t 9 rfl, fun h => absurd h (by decide), fun _ => ⟨x_t 1508 rfl, Or.inr (x_s 90 rfl)⟩, by decide +kernel, by decide +kernel, by decide +kernel, by decide +kernel, by decide +kernel⟩
set_option maxRecDepth 30000 in
theorem x_me161 : x_meP (xE 161) := ⟨x_t 1199 rfl, x_t 9 rfl, fun h => absurd h (by decide), fun _ => ⟨x_t 1198 rfl, Or.inr (x_s 52 rfl)⟩, by decide +kernel, by decide +kernel, by decide +kernel, by decide +kernel, by decide +kernel⟩
set_option maxRecDepth 30000 in
theorem x_me162 : x_meP (xE 162) := ⟨x_t 1202 rfl, x_t 9 rfl, fun _ => x_t 1201 rfl, fun h => absurd h (by decide), by decide +kernel, by decide +kernel, by decide +kernel, by decide +kernel, by decide +kernel⟩
set_option maxRecDepth 30000 in
theorem x_me163 : x_meP (xE 163) := ⟨x_t 1206 rfl, x_t 9 rfl, fun _ => x_t 1205 rfl, fun h => absurd h (by decide), by decide +kernel, by decide +kernel, by decide +kernel, by decide +kernel, by decide +kernel⟩
set_option maxRecDepth 30000 in
theorem x_me164 : x_meP (xE 164) := ⟨x_t 1222 rfl, x_t 9 rfl, fun _ => x_t 1221 rfl, fun h => absurd h (by decide), by decide +kernel, by decide +kernel, by decide +kernel, by decide +kernel, by decide +kernel⟩
set_option maxRecDepth 30000 in
theorem x_me165 : x_meP (xE 165) := ⟨x_t 1195 rfl, x_t 9 rfl, fun h => absurd h (by decide), fun _ => ⟨x_t 1194 rfl, Or.inr (x_s 51 rfl)⟩, by decide +kernel, by decide +kernel, by decide +kernel, by decide +kernel, by decide +kernel⟩
set_option maxRecDepth 30000 in
theorem x_me166 : x_meP (xE 166) := ⟨x_t 1278 rfl, x_t 9 rfl, fun h => absurd h (by decide), fun _ => ⟨x_t 1277 rfl, Or.inr (x_s 57 rfl)⟩, by decide +kernel, by decide +kernel, by decide +kernel, by decide +kernel, by decide +kernel⟩
set_option maxRecDepth 30000 in
theorem x_me167 : x_meP (xE 167) := ⟨x_t 1219 rfl, x_t 9 rfl, fun h => absurd h (by decide), fun _ => ⟨x_t 1218 rfl, Or.inr (x_s 55 rfl)⟩, by decide +kernel, by decide +kernel, by decide +kernel, by decide +kernel, by decide +kernel⟩
set_option maxRecDepth 30000 in
theorem x_me168 : x_meP (xE 168) := ⟨x_t 1353 rfl, x_t 9 rfl, fun h => absurd h (by decide), fun _ => ⟨x_t 1352 rfl, Or.inr (x_s 68 rfl)⟩, by decide +kernel, by decide +kernel, by decide +kernel, by decide +kernel, by decide +kernel⟩
set_option maxRecDepth 30000 in
theorem x_me169 : x_meP (xE 169) := ⟨x_t 1283 rfl, x_t 9 rfl, fun h => absurd h (by decide), fun _ => ⟨x_t 1282 rfl, Or.inr (x_s 58 rfl)⟩, by decide +kernel, by decide +kernel, by decide +kernel, by decide +kernel, by decide +kernel⟩
set_option maxRecDepth 30000 in
theorem x_me170 : x_meP (xE 170) := ⟨x_t 1300 rfl, x_t 9 rfl, fun h => absurd h (by decide), fun _ => ⟨x_t 1299 rfl, Or.inr (x_s 61 rfl)⟩, by decide +kernel, by decide +kernel, by decide +kernel, by decide +kernel, by decide +kernel⟩
set_option maxRecDepth 30000 in
theorem x_me171 : x_meP (xE 171) := ⟨x_t 1296 rfl, x_t 9 rfl, fun h => absurd h (by decide), fun _ => ⟨x_t 1295 rfl, Or.inr (x_s 60 rfl)⟩, by decide +kernel, by decide +kernel, by decide +kernel, by decide +kernel, by decide +kernel⟩
set_option maxRecDepth 30000 in
theorem x_me172 : x_meP (xE 172) := ⟨x_t 1323 rfl, x_t 9 rfl, fun h => absurd h (by decide), fun _ => ⟨x_t 1322 rfl, Or.inr (x_s 63 rfl)⟩, by decide +kernel, by decide +kernel, by decide +kernel, by decide +kernel, by decide +kernel⟩
set_option maxRecDepth 30000 in
theorem x_me173 : x_meP (xE 173) := ⟨x_t 1210 rfl, x_t 9 rfl, fun h => absurd h (by decide), fun _ => ⟨x_t 1209 rfl, Or.inr (x_s 53 rfl)⟩, by decide +kernel, by decide +kernel, by decide +kernel, by decide +kernel, by decide +kernel⟩
set_option maxRecDepth 30000 in
theorem x_me174 : x_meP (xE 174) := ⟨x_t 1214 rfl, x_t 9 rfl, fun h => absurd h (by decide), fun _ => ⟨x_t 1213 rfl, Or.inr (x_s 54 rfl)⟩, by decide +kernel, by decide +kernel, by decide +kernel, by decide +kernel, by decide +kernel⟩
set_option maxRecDepth 30000 in
theorem x_me175 : x_meP (xE 175) := ⟨x_t 1274 rfl, x_t 9 rfl, fun h => absurd h (by decide), fun _ => ⟨x_t 1273 rfl, Or.inr (x_s 56 rfl)⟩, by decide +kernel, by decide +kernel, by decide +kernel, by decide +kernel, by decide +kernel⟩
set_option maxRecDepth 30000 in
theorem x_me176 : x_meP (xE 176) := ⟨x_t 1292 rfl, x_t 9 rfl, fun h => absurd h (by decide), fun _ => ⟨x_t 1291 rfl, Or.inr (x_s 59 rfl)⟩, by decide +kernel, by decide +kernel, by decide +kernel, by decide +kernel, by decide +kernel⟩
set_option maxRecDepth 30000 in
theorem x_me177 : x_meP (xE 177) := ⟨x_t 1319 rfl, x_t 9 rfl, fun h => absurd h (by decide), fun _ => ⟨x_t 1318 rfl, Or.inr (x_s 62 rfl)⟩, by decide +kernel, by decide +kernel, by decide +kernel, by decide +kernel, by decide +kernel⟩
set_option maxRecDepth 30000 in
theorem x_me178 : x_meP (xE 178) := ⟨x_t 1334 rfl, x_t 9 rfl, fun h => absurd h (by decide), fun _ => ⟨x_t 1333 rfl, Or.inr (x_s 65 rfl)⟩, by decide +kernel, by decide +kernel, by decide +kernel, by decide +kernel, by decide +kernel⟩
set_option maxRecDepth 30000 in
theorem x_me179 : x_meP (xE 179) := ⟨x_t 1330 rfl, x_t 9 rfl, fun h => absurd h (by decide), fun _ => ⟨x_t 1329 rfl, Or.inr (x_s 64 rfl)⟩, by decide +kernel, by decide +kernel, by decide +kernel, by decide +kernel, by decide +kernel⟩
set_option maxRecDepth 30000 in
theorem x_me180 : x_meP (xE 180) := ⟨x_t 1344 rfl, x_t 9 rfl, fun h => absurd h (by decide), fun _ => ⟨x_t 1343 rfl, Or.inr (x_s 66 rfl)⟩, by decide +kernel, by decide +kernel, by decide +kernel, by decide +kernel, by decide +kernel⟩
set_option maxRecDepth 30000 in
theorem x_me181 : x_meP (xE 181) := ⟨x_t 1349 rfl, x_t 9 rfl, fun h => absurd h (by decide), fun _ => ⟨x_t 1348 rfl, Or.inr (x_s 67 rfl)⟩, by decide +kernel, by decide +kernel, by decide +kernel, by decide +kernel, by decide +kernel⟩
set_option maxRecDepth 30000 in
theorem x_me182 : x_meP (xE 182) := ⟨x_t 1113 rfl, x_t 9 rfl, fun h => absurd h (by decide), fun _ => ⟨x_t 1111 rfl, Or.inr (x_t 1112 rfl)⟩, by decide +kernel, by decide +kernel, by decide +kernel, by decide +kernel, by decide +kernel⟩
set_option maxRecDepth 30000 in
theorem x_me183 : x_meP (xE 183) := ⟨x_t 1117 rfl, x_t 9 rfl, fun h => absurd h (by decide), fun _ => ⟨x_t 1115 rfl, Or.inr (x_t 1116 rfl)⟩, by decide +kernel, by decide +kernel, by decide +kernel, by decide +kernel, by decide +kernel⟩
set_option maxRecDepth 30000 in
theorem x_me184 : x_meP (xE 184) := ⟨x_t 1365 rfl, x_t 9 rfl, fun h => absurd h (by decide), fun _ => ⟨x_t 1363 rfl, Or.inr (x_t 1364 rfl)⟩, by decide +kernel, by decide +kernel, by decide +kernel, by decide +kernel, by decide +kernel⟩
set_option maxRecDepth 30000 in
theorem x_me185 : x_meP (xE 185) := ⟨x_t 1369 rfl, x_t 9 rfl, fun h => absurd h (by decide), fun _ => ⟨x_t 1367 rfl, Or.inr (x_t 1368 rfl)⟩, by decide +kernel, by decide +kernel, by decide +kernel, by decide +kernel, by decide +kernel⟩
set_option maxRecDepth 30000 in
theorem x_me186 : x_meP (xE 186) := ⟨x_t 1377 rfl, x_t 9 rfl, fun h => absurd h (by decide), fun _ => ⟨x_t 1376 rfl, Or.inr (x_s 71 rfl)⟩, by decide +kernel, by decide +kernel, by decide +kernel, by decide +kernel, by decide +kernel⟩
set_option maxRecDepth 30000 in
theorem x_me187 : x_meP (xE 187) := ⟨x_t 1397 rfl, x_t 9 rfl, fun h => absurd h (by decide), fun _ => ⟨x_t 1396 rfl, Or.inr (x_s 75 rfl)⟩, by decide +kernel, by decide +kernel, by decide +kernel, by decide +kernel, by decide +kernel⟩
set_option maxRecDepth 30000 in
theorem x_me188 : x_meP (xE 188) := ⟨x_t 1409 rfl, x_t 9 rfl, fun h => absurd h (by decide), fun _ => ⟨x_t 1408 rfl, Or.inr (x_s 77 rfl)⟩, by decide +kernel, by decide +kernel, by decide +kernel, by decide +kernel, by decide +kernel⟩
set_option maxRecDepth 30000 in
theorem x_me189 : x_meP (xE 189) := ⟨x_t 1357 rfl, x_t 9 rfl, fun h => absurd h (by decide), fun _ => ⟨x_t 1356 rfl, Or.inr (x_s 69 rfl)⟩, by decide +kernel, by decide +kernel, by decide +kernel, by decide +kernel, by decide +kernel⟩
set_option maxRecDepth 30000 in
theorem x_me190 : x_meP (xE 190) := ⟨x_t 1417 rfl, x_t 9 rfl, fun h => absurd h (by decide), fun _ => ⟨x_t 1416 rfl, Or.inr (x_s 79 rfl)⟩, by decide +kernel, by decide +kernel, by decide +kernel, by decide +kernel, by decide +kernel⟩
set_option maxRecDepth 30000 in
theorem x_me191 : x_meP (xE 191) := ⟨x_t 1421 rfl, x_t 9 rfl, fun h => absurd h (by decide), fun _ => ⟨x_t 1420 rfl, Or.inr (x_s 80 rfl)⟩, by decide +kernel, by decide +kernel, by decide +kernel, by decide +kernel, by decide +kernel⟩
set_option maxRecDepth 30000 in
theorem x_me192 : x_meP (xE 192) := ⟨x_t 1413 rfl, x_t 9 rfl, fun h => absurd h (by decide), fun _ => ⟨x_t 1412 rfl, Or.inr (x_s 78 rfl)⟩, by decide +kernel, by decide +kernel, by decide +kernel, by decide +kernel, by decide +kernel⟩
set_option maxRecDepth 30000 in
theorem x_me193 : x_meP (xE 193) := ⟨x_t 1433 rfl, x_t 9 rfl, fun h => absurd h (by decide), fun _ => ⟨x_t 1432 rfl, Or.inr (x_s 82 rfl)⟩, by decide +kernel, by decide +kernel, by decide +kernel, by decide +kernel, by decide +kernel⟩
set_option maxRecDepth 30000 in
theorem x_me194 : x_meP (xE 194) := ⟨x_t 1449 rfl, x_t 9 rfl, fun h => absurd h (by decide), fun _ => ⟨x_t 1448 rfl, Or.inr (x_s 85 rfl)⟩, by decide +kernel, by decide +kernel, by decide +kernel, by decide +kernel, by decide +kernel⟩
set_option maxRecDepth 30000 in
theorem x_me195 : x_meP (xE 195) := ⟨x_t 1445 rfl, x_t 9 rfl, fun h => absurd h (by decide), fun _ => ⟨x_t 1444 rfl, Or.inr (x_s 84 rfl)⟩, by decide +kernel, by decide +kernel, by decide +kernel, by decide +kernel, by decide +kernel⟩
set_option maxRecDepth 30000 in
theorem x_me196 : x_meP (xE 196) := ⟨x_t 1674 rfl, x_t 9 rfl, fun h => absurd h (by decide), fun _ => ⟨x_t 1673 rfl, Or.inr (x_s 107 rfl)⟩, by decide +kernel, by decide +kernel, by decide +kernel, by decide +kernel, by decide +kernel⟩
set_option maxRecDepth 30000 in
theorem x_me197 : x_meP (xE 197) := ⟨x_t 1429 rfl, x_t 9 rfl, fun h => absurd h (by decide), fun _ => ⟨x_t 1428 rfl, Or.inr (x_s 81 rfl)⟩, by decide +kernel, by decide +kernel, by decide +kernel, by decide +kernel, by decide +kernel⟩
set_option maxRecDepth 30000 in
theorem x_me198 : x_meP (xE 198) := ⟨x_t 1381 rfl, x_t 9 rfl, fun h => absurd h (by decide), fun _ => ⟨x_t 1380 rfl, Or.inr (x_s 72 rfl)⟩, by decide +kernel, by decide +kernel, by decide +kernel, by decide +kernel, by decide +kernel⟩
set_option maxRecDepth 30000 in
theorem x_me199 : x_meP (xE 199) := ⟨x_t 1385 rfl, x_t 9 rfl, fun h => absurd h (by decide), fun _ => ⟨x_t 1384 rfl, Or.inr (x_s 73 rfl)⟩, by decide +kernel, by decide +kernel, by decide +kernel, by decide +kernel, by decide +kernel⟩
set_option maxRecDepth 30000 in
theorem x_me200 : x_meP (xE 200) := ⟨x_t 1389 rfl, x_t 9 rfl, fun h => absurd h (by decide), fun _ => ⟨x_t 1388 rfl, Or.inr (x_s 74 rfl)⟩, by decide +kernel, by decide +kernel, by decide +kernel, by decide +kernel, by decide +kernel⟩
set_option maxRecDepth 30000 in
theorem x_me201 : x_meP (xE 201) := ⟨x_t 1373 rfl, x_t 9 rfl, fun h => absurd h (by decide), fun _ => ⟨x_t 1371 rfl, Or.inr (x_t 1372 rfl)⟩, by decide +kernel, by decide +kernel, by decide +kernel, by decide +kernel, by decide +kernel⟩
set_option maxRecDepth 30000 in
theorem x_me202 : x_meP (xE 202) := ⟨x_t 1393 rfl, x_t 9 rfl, fun h => absurd h (by decide), fun _ => ⟨x_t 1391 rfl, Or.inr (x_t 1392 rfl)⟩, by decide +kernel, by decide +kernel, by decide +kernel, by decide +kernel, by decide +kernel⟩
set_option maxRecDepth 30000 in
theorem x_me203 : x_meP (xE 203) := ⟨x_t 1405 rfl, x_t 9 rfl, fun h => absurd h (by decide), fun _ => ⟨x_t 1404 rfl, Or.inr (x_s 76 rfl)⟩, by decide +kernel, by decide +kernel, by decide +kernel, by decide +kernel, by decide +kernel⟩
set_option maxRecDepth 30000 in
theorem x_me204 : x_meP (xE 204) := ⟨x_t 1401 rfl, x_t 9 rfl, fun h => absurd h (by decide), fun _ => ⟨x_t 1399 rfl, Or.inr (x_t 1400 rfl)⟩, by decide +kernel, by decide +kernel, by decide +kernel, by decide +kernel, by decide +kernel⟩
set_option maxRecDepth 30000 in
theorem x_me205 : x_meP (xE 205) := ⟨x_t 1437 rfl, x_t 9 rfl, fun h => absurd h (by decide), fun _ => ⟨x_t 1436 rfl, Or.inr (x_s 83 rfl)⟩, by decide +kernel, by decide +kernel, by decide +kernel, by decide +kernel, by decide +kernel⟩
set_option maxRecDepth 30000 in
theorem x_me206 : x_meP (xE 206) := ⟨x_t 1425 rfl, x_t 9 rfl, fun h => absurd h (by decide), fun _ => ⟨x_t 1423 rfl, Or.inr (x_t 1424 rfl)⟩, by decide +kernel, by decide +kernel, by decide +kernel, by decide +kernel, by decide +kernel⟩
set_option maxRecDepth 30000 in
theorem x_me207 : x_meP (xE 207) := ⟨x_t 1441 rfl, x_t 9 rfl, fun h => absurd h (by decide), fun _ => ⟨x_t 1439 rfl, Or.inr (x_t 1440 rfl)⟩, by decide +kernel, by decide +kernel, by decide +kernel, by decide +kernel, by decide +kernel⟩
set_option maxRecDepth 30000 in
theorem x_me208 : x_meP (xE 208) := ⟨x_t 1453 rfl, x_t 9 rfl, fun h => absurd h (by decide), fun _ => ⟨x_t 1451 rfl, Or.inr (x_t 1452 rfl)⟩, by decide +kernel, by decide +kernel, by decide +kernel, by decide +kernel, by decide +kernel⟩
set_option maxRecDepth 30000 in
theorem x_me209 : x_meP (xE 209) := ⟨x_t 1457 rfl, x_t 9 rfl, fun h => absurd h (by decide), fun _ => ⟨x_t 1455 rfl, Or.inr (x_t 1456 rfl)⟩, by decide +kernel, by decide +kernel, by decide +kernel, by decide +kernel, by decide +kernel⟩
set_option maxRecDepth 30000 in
theorem x_me210 : x_meP (xE 210) := ⟨x_t 1465 rfl, x_t 9 rfl, fun h => absurd h (by decide), fun _ => ⟨x_t 1464 rfl, Or.inr (x_s 86 rfl)⟩, by decide +kernel, by decide +kernel, by decide +kernel, by decide +kernel, by decide +kernel⟩
set_option maxRecDepth 30000 in
theorem x_me211 : x_meP (xE 211) := ⟨x_t 1461 rfl, x_t 9 rfl, fun h => absurd h (by decide), fun _ => ⟨x_t 1459 rfl, Or.inr (x_t 1460 rfl)⟩, by decide +kernel, by decide +kernel, by decide +kernel, by decide +kernel, by decide +kernel⟩
set_option maxRecDepth 30000 in
theorem x_me212 : x_meP (xE 212) := ⟨x_t 1469 rfl, x_t 9 rfl, fun h => absurd h (by decide), fun _ => ⟨x_t 1467 rfl, Or.inr (x_t 1468 rfl)⟩, by decide +kernel, by decide +kernel, by decide +kernel, by decide +kernel, by decide +kernel⟩
set_option maxRecDepth 30000 in
theorem x_me213 : x_meP (xE 213) := ⟨x_t 1473 rfl, x_t 9 rfl, fun h => absurd h (by decide), fun _ => ⟨x_t 1471 rfl, Or.inr (x_t 1472 rfl)⟩, by decide +kernel, by decide +kernel, by decide +kernel, by decide +kernel, by decide +kernel⟩
set_option maxRecDepth 30000 in
theorem x_me214 : x_meP (xE 214) := ⟨x_t 1477 rfl, x_t 9 rfl, fun h => absurd h (by decide), fun _ => ⟨x_t 1475 rfl, Or.inr (x_t 1476 rfl)⟩, by decide +kernel, by decide +kernel, by decide +kernel, by decide +kernel, by decide +kernel⟩
set_option maxRecDepth 30000 in
theorem x_me215 : x_meP (xE 215) := ⟨x_t 1481 rfl, x_t 9 rfl, fun h => absurd h (by decide), fun _ => ⟨x_t 1479 rfl, Or.inr (x_t 1480 rfl)⟩, by decide +kernel, by decide +kernel, by decide +kernel, by decide +kernel, by decide +kernel⟩
set_option maxRecDepth 30000 in
theorem x_me216 : x_meP (xE 216) := ⟨x_t 1485 rfl, x_t 9 rfl, fun h => absurd h (by decide), fun _ => ⟨x_t 1483 rfl, Or.inr (x_t 1484 rfl)⟩, by decide +kernel, by decide +kernel, by decide +kernel, by decide +kernel, by decide +kernel⟩
set_option maxRecDepth 30000 in
theorem x_me217 : x_meP (xE 217) := ⟨x_t 1505 rfl, x_t 9 rfl, fun h => absurd h (by decide), fun _ => ⟨x_t 1504 rfl, Or.inr (x_s 89 rfl)⟩, by decide +kernel, by decide +kernel, by decide +kernel, by decide +kernel, by decide +kernel⟩
set_option maxRecDepth 30000 in
theorem x_me218 : x_meP (xE 218) := ⟨x_t 1500 rfl, x_t 9 rfl, fun h => absurd h (by decide), fun _ => ⟨x_t 1499 rfl, Or.inr (x_s 88 rfl)⟩, by decide +kernel, by decide +kernel, by decide +kernel, by decide +kernel, by decide +kernel⟩
set_option maxRecDepth 30000 in
theorem x_me219 : x_meP (xE 219) := ⟨x_t 1496 rfl, x_t 9 rfl, fun h => absurd h (by decide), fun _ => ⟨x_t 1495 rfl, Or.inr (x_s 87 rfl)⟩, by decide +kernel, by decide +kernel, by decide +kernel, by decide +kernel, by decide +kernel⟩
set_option maxRecDepth 30000 in
theorem x_me220 : x_meP (xE 220) := ⟨x_t 1492 rfl, x_t 9 rfl, fun h => absurd h (by decide), fun _ => ⟨x_t 1490 rfl, Or.inr (x_t 1491 rfl)⟩, by decide +kernel, by decide +kernel, by decide +kernel, by decide +kernel, by decide +kernel⟩
set_option maxRecDepth 30000 in
theorem x_me221 : x_meP (xE 221) := ⟨x_t 1516 rfl, x_t 9 rfl, fun h => absurd h (by decide), fun _ => ⟨x_t 1514 rfl, Or.inr (x_t 1515 rfl)⟩, by decide +kernel, by decide +kernel, by decide +kernel, by decide +kernel, by decide +kernel⟩
set_option maxRecDepth 30000 in
theorem x_me222 : x_meP (xE 222) := ⟨x_t 1520 rfl, x_t 9 rfl, fun h => absurd h (by decide), fun _ => ⟨x_t 1518 rfl, Or.inr (x_t 1519 rfl)⟩, by decide +kernel, by decide +kernel, by decide +kernel, by decide +kernel, by decide +kernel⟩
set_option maxRecDepth 30000 in
theorem x_me223 : x_meP (xE 223) := ⟨x_t 1524 rfl, x_t 9 rfl, fun h => absurd h (by decide), fun _ => ⟨x_t 1522 rfl, Or.inr (x_t 1523 rfl)⟩, by decide +kernel, by decide +kernel, by decide +kernel, by decide +kernel, by decide +kernel⟩
set_option maxRecDepth 30000 in
theorem x_me224 : x_meP (xE 224) := ⟨x_t 1541 rfl, x_t 9 rfl, fun h => absurd h (by decide), fun _ => ⟨x_t 1540 rfl, Or.inr (x_s 93 rfl)⟩, by decide +kernel, by decide +kernel, by decide +kernel, by decide +kernel, by decide +kernel⟩
set_option maxRecDepth 30000 in
theorem x_me225 : x_meP (xE 225) := ⟨x_t 1536 rfl, x_t 9 rfl, fun h => absurd h (by decide), fun _ => ⟨x_t 1535 rfl, Or.inr (x_s 92 rfl)⟩, by decide +kernel, by decide +kernel, by decide +kernel, by decide +kernel, by decide +kernel⟩
set_option maxRecDepth 30000 in
theorem x_me226 : x_meP (xE 226) := ⟨x_t 1532 rfl, x_t 9 rfl, fun h => absurd h (by decide), fun _ => ⟨x_t 1531 rfl, Or.inr (x_s 91 rfl)⟩, by decide +kernel, by decide +kernel, by decide +kernel, by decide +kernel, by decide +kernel⟩
set_option maxRecDepth 30000 in
theorem x_me227 : x_meP (xE 227) := ⟨x_t 1528 rfl, x_t 9 rfl, fun h => absurd h (by decide), fun _ => ⟨x_t 1526 rfl, Or.inr (x_t 1527 rfl)⟩, by decide +kernel, by decide +kernel, by decide +kernel, by decide +kernel, by decide +kernel⟩
set_option maxRecDepth 30000 in
theorem x_me228 : x_meP (xE 228) := ⟨x_t 1545 rfl, x_t 9 rfl, fun h => absurd h (by decide), fun _ => ⟨x_t 1543 rfl, Or.inr (x_t 1544 rfl)⟩, by decide +kernel, by decide +kernel, by decide +kernel, by decide +kernel, by decide +kernel⟩
set_option maxRecDepth 30000 in
theorem x_me229 : x_meP (xE 229) := ⟨x_t 1557 rfl, x_t 9 rfl, fun h => absurd h (by decide), fun _ => ⟨x_t 1556 rfl, Or.inr (x_s 95 rfl)⟩, by decide +kernel, by decide +kernel, by decide +kernel, by decide +kernel, by decide +kernel⟩
set_option maxRecDepth 30000 in
theorem x_me230 : x_meP (xE 230) := ⟨x_t 1561 rfl, x_t 9 rfl, fun h => absurd h (by decide), fun _ => ⟨x_t 1560 rfl, Or.inr (x_s 96 rfl)⟩, by decide +kernel, by decide +kernel, by decide +kernel, by decide +kernel, by decide +kernel⟩
set_option maxRecDepth 30000 in
theorem x_me231 : x_meP (xE 231) := ⟨x_t 1553 rfl, x_t 9 rfl, fun h => absurd h (by decide), fun _ => ⟨x_t 1552 rfl, Or.inr (x_s 94 rfl)⟩, by decide +kernel, by decide +kernel, by decide +kernel, by decide +kernel, by decide +kernel⟩
set_option maxRecDepth 30000 in
theorem x_me232 : x_meP (xE 232) := ⟨x_t 1549 rfl, x_t 9 rfl, fun h => absurd h (by decide), fun _ => ⟨x_t 1547 rfl, Or.inr (x_t 1548 rfl)⟩, by decide +kernel, by decide +kernel, by decide +kernel, by decide +kernel, by decide +kernel⟩
set_option maxRecDepth 30000 in
theorem x_me233 : x_meP (xE 233) := ⟨x_t 1565 rfl, x_t 9 rfl, fun h => absurd h (by decide), fun _ => ⟨x_t 1563 rfl, Or.inr (x_t 1564 rfl)⟩, by decide +kernel, by decide +kernel, by decide +kernel, by decide +kernel, by decide +kernel⟩
set_option maxRecDepth 30000 in
theorem x_me234 : x_meP (xE 234) := ⟨x_t 1569 rfl, x_t 9 rfl, fun h => absurd h (by decide), fun _ => ⟨x_t 1567 rfl, Or.inr (x_t 1568 rfl)⟩, by decide +kernel, by decide +kernel, by decide +kernel, by decide +kernel, by decide +kernel⟩
set_option maxRecDepth 30000 in
theorem x_me235 : x_meP (xE 235) := ⟨x_t 1573 rfl, x_t 9 rfl, fun h => absurd h (by decide), fun _ => ⟨x_t 1571 rfl, Or.inr (x_t 1572 rfl)⟩, by decide +kernel, by decide +kernel, by decide +kernel, by decide +kernel, by decide +kernel⟩
set_option maxRecDepth 30000 in
theorem x_me236 : x_meP (xE 236) := ⟨x_t 1577 rfl, x_t 9 rfl, fun h => absurd h (by decide), fun _ => ⟨x_t 1575 rfl, Or.inr (x_t 1576 rfl)⟩, by decide +kernel, by decide +kernel, by decide +kernel, by decide +kernel, by decide +kernel⟩
set_option maxRecDepth 30000 in
theorem x_me237 : x_meP (xE 237) := ⟨x_t 1593 rfl, x_t 9 rfl, fun h => absurd h (by decide), fun _ => ⟨x_t 1592 rfl, Or.inr (x_s 99 rfl)⟩, by decide +kernel, by decide +kernel, by decide +kernel, by decide +kernel, by decide +kernel⟩
set_option maxRecDepth 30000 in
theorem x_me238 : x_meP (xE 238) := ⟨x_t 1589 rfl, x_t 9 rfl, fun h => absurd h (by decide), fun _ => ⟨x_t 1588 rfl, Or.inr (x_s 98 rfl)⟩, by decide +kernel, by decide +kernel, by decide +kernel, by decide +kernel, by decide +kernel⟩
set_option maxRecDepth 30000 in
theorem x_me239 : x_meP (xE 239) := ⟨x_t 1597 rfl, x_t 9 rfl, fun h => absurd h (by decide), fun _ => ⟨x_t 1596 rfl, Or.inr (x_s 100 rfl)⟩, by decide +kernel, by decide +kernel, by decide +kernel, by decide +kernel, by decide +kernel⟩
set_option maxRecDepth 30000 in
theorem x_me240 : x_meP (xE 240) := ⟨x_t 1585 rfl, x_t 9 rfl, fun h => absurd h (by decide), fun _ => ⟨x_t 1584 rfl, Or.inr (x_s 97 rfl)⟩, by decide +kernel, by decide +kernel, by decide +kernel, by decide +kernel, by decide +kernel⟩
set_option maxRecDepth 30000 in
theorem x_me241 : x_meP (xE 241) := ⟨x_t 1581 rfl, x_t 9 rfl, fun h => absurd h (by decide), fun _ => ⟨x_t 1579 rfl, Or.inr (x_t 1580 rfl)⟩, by decide +kernel, by decide +kernel, by decide +kernel, by decide +kernel, by decide +kernel⟩
set_option maxRecDepth 30000 in
theorem x_me242 : x_meP (xE 242) := ⟨x_t 1601 rfl, x_t 9 rfl, fun h => absurd h (by decide), fun _ => ⟨x_t 1599 rfl, Or.inr (x_t 1600 rfl)⟩, by decide +kernel, by decide +kernel, by decide +kernel, by decide +kernel, by decide +kernel⟩
set_option maxRecDepth 30000 in
theorem x_me243 : x_meP (xE 243) := ⟨x_t 1605 rfl, x_t 9 rfl, fun h => absurd h (by decide), fun _ => ⟨x_t 1603 rfl, Or.inr (x_t 1604 rfl)⟩, by decide +kernel, by decide +kernel, by decide +kernel, by decide +kernel, by decide +kernel⟩
set_option maxRecDepth 30000 in
theorem x_me244 : x_meP (xE 244) := ⟨x_t 1613 rfl, x_t 9 rfl, fun h => absurd h (by decide), fun _ => ⟨x_t 1612 rfl, Or.inr (x_s 101 rfl)⟩, by decide +kernel, by decide +kernel, by decide +kernel, by decide +kernel, by decide +kernel⟩
set_option maxRecDepth 30000 in
theorem x_me245 : x_meP (xE 245) := ⟨x_t 1609 rfl, x_t 9 rfl, fun h => absurd h (by decide), fun _ => ⟨x_t 1607 rfl, Or.inr (x_t 1608 rfl)⟩, by decide +kernel, by decide +kernel, by decide +kernel, by decide +kernel, by decide +kernel⟩
set_option maxRecDepth 30000 in
theorem x_me246 : x_meP (xE 246) := ⟨x_t 1617 rfl, x_t 9 rfl, fun h => absurd h (by decide), fun _ => ⟨x_t 1615 rfl, Or.inr (x_t 1616 rfl)⟩, by decide +kernel, by decide +kernel, by decide +kernel, by decide +kernel, by decide +kernel⟩
set_option maxRecDepth 30000 in
theorem x_me247 : x_meP (xE 247) := ⟨x_t 1621 rfl, x_t 9 rfl, fun h => absurd h (by decide), fun _ => ⟨x_t 1619 rfl, Or.inr (x_t 1620 rfl)⟩, by decide +kernel, by decide +kernel, by decide +kernel, by decide +kernel, by decide +kernel⟩
set_option maxRecDepth 30000 in
theorem x_me248 : x_meP (xE 248) := ⟨x_t 1639 rfl, x_t 9 rfl, fun _ => x_t 1638 rfl, fun h => absurd h (by decide), by decide +kernel, by decide +kernel, by decide +kernel, by decide +kernel, by decide +kernel⟩
set_option maxRecDepth 30000 in
theorem x_me249 : x_meP (xE 249) := ⟨x_t 1636 rfl, x_t 9 rfl, fun _ => x_t 1635 rfl, fun h => absurd h (by decide), by decide +kernel, by decide +kernel, by decide +kernel, by decide +kernel, by decide +kernel⟩
set_option maxRecDepth 30000 in
theorem x_me250 : x_meP (xE 250) := ⟨x_t 1629 rfl, x_t 9 rfl, fun h => absurd h (by decide), fun _ => ⟨x_t 1628 rfl, Or.inr (x_s 102 rfl)⟩, by decide +kernel, by decide +kernel, by decide +kernel, by decide +kernel, by decide +kernel⟩
set_option maxRecDepth 30000 in
theorem x_me251 : x_meP (xE 251) := ⟨x_t 1625 rfl, x_t 9 rfl, fun h => absurd h (by decide), fun _ => ⟨x_t 1623 rfl, Or.inr (x_t 1624 rfl)⟩, by decide +kernel, by decide +kernel, by decide +kernel, by decide +kernel, by decide +kernel⟩
set_option maxRecDepth 30000 in
theorem x_me252 : x_meP (xE 252) := ⟨x_t 1646 rfl, x_t 9 rfl, fun _ => x_t 1645 rfl, fun h => absurd h (by decide), by decide +kernel, by decide +kernel, by decide +kernel, by decide +kernel, by decide +kernel⟩
set_option maxRecDepth 30000 in
theorem x_me253 : x_meP (xE 253) := ⟨x_t 1643 rfl, x_t 9 rfl, fun h => absurd h (by decide), fun _ => ⟨x_t 1641 rfl, Or.inr (x_t 1642 rfl)⟩, by decide +kernel, by decide +kernel, by decide +kernel, by decide +kernel, by decide +kernel⟩
set_option maxRecDepth 30000 in
theorem x_me254 : x_meP (xE 254) := ⟨x_t 1650 rfl, x_t 9 rfl, fun h => absurd h (by decide), fun _ => ⟨x_t 1648 rfl, Or.inr (x_t 1649 rfl)⟩, by decide +kernel, by decide +kernel, by decide +kernel, by decide +kernel, by decide +kernel⟩
set_option maxRecDepth 30000 in
theorem x_me255 : x_meP (xE 255) := ⟨x_t 1667 rfl, x_t 9 rfl, fun h => absurd h (by decide), fun _ => ⟨x_t 1666 rfl, Or.inr (x_s 106 rfl)⟩, by decide +kernel, by decide +kernel, by decide +kernel, by decide +kernel, by decide +kernel⟩
set_option maxRecDepth 30000 in
theorem x_me256 : x_meP (xE 256) := ⟨x_t 1663 rfl, x_t 9 rfl, fun h => absurd h (by decide), fun _ => ⟨x_t 1662 rfl, Or.inr (x_s 105 rfl)⟩, by decide +kernel, by decide +kernel, by decide +kernel, by decide +kernel, by decide +kernel⟩
set_option maxRecDepth 30000 in
theorem x_me257 : x_meP (xE 257) := ⟨x_t 1658 rfl, x_t 9 rfl, fun h => absurd h (by decide), fun _ => ⟨x_t 1657 rfl, Or.inr (x_s 104 rfl)⟩, by decide +kernel, by decide +kernel, by decide +kernel, by decide +kernel, by decide +kernel⟩
set_option maxRecDepth 30000 in
theorem x_me258 : x_meP (xE 258) := ⟨x_t 1654 rfl, x_t 9 rfl, fun h => absurd h (by decide), fun _ => ⟨x_t 1652 rfl, Or.inr (x_t 1653 rfl)⟩, by decide +kernel, by decide +kernel, by decide +kernel, by decide +kernel, by decide +kernel⟩
set_option maxRecDepth 30000 in
theorem x_me259 : x_meP (xE 259) := ⟨x_t 1678 rfl, x_t 9 rfl, fun h => absurd h (by decide), fun _ => ⟨x_t 1676 rfl, Or.inr (x_t 1677 rfl)⟩, by decide +kernel, by decide +kernel, by decide +kernel, by decide +kernel, by decide +kernel⟩
set_option maxRecDepth 30000 in
theorem x_me260 : x_meP (xE 260) := ⟨x_t 1682 rfl, x_t 9 rfl, fun h => absurd h (by decide), fun _ => ⟨x_t 1680 rfl, Or.inr (x_t 1681 rfl)⟩, by decide +kernel, by decide +kernel, by decide +kernel, by decide +kernel, by decide +kernel⟩
set_option maxRecDepth 30000 in
theorem x_me261 : x_meP (xE 261) := ⟨x_t 1690 rfl, x_t 9 rfl, fun h => absurd h (by decide), fun _ => ⟨x_t 1689 rfl, Or.inr (x_s 108 rfl)⟩, by decide +kernel, by decide +kernel, by decide +kernel, by decide +kernel, by decide +kernel⟩
set_option maxRecDepth 30000 in
theorem x_me262 : x_meP (xE 262) := ⟨x_t 1694 rfl, x_t 9 rfl, fun h => absurd h (by decide), fun _ => ⟨x_t 1693 rfl, Or.inr (x_s 109 rfl)⟩, by decide +kernel, by decide +kernel, by decide +kernel, by decide +kernel, by decide +kernel⟩
set_option maxRecDepth 30000 in
theorem x_me263 : x_meP (xE 263) := ⟨x_t 1686 rfl, x_t 9 rfl, fun h => absurd h (by decide), fun _ => ⟨x_t 1684 rfl, Or.inr (x_t 1685 rfl)⟩, by decide +kernel, by decide +kernel, by decide +kernel, by decide +kernel, by decide +kernel⟩
set_option maxRecDepth 30000 in
theorem x_me264 : x_meP (xE 264) := ⟨x_t 1698 rfl, x_t 9 rfl, fun h => absurd h (by decide), fun _ => ⟨x_t 1696 rfl, Or.inr (x_t 1697 rfl)⟩, by decide +kernel, by decide +kernel, by decide +kernel, by decide +kernel, by decide +kernel⟩
set_option maxRecDepth 30000 in
theorem x_me265 : x_meP (xE 265) := ⟨x_t 1702 rfl, x_t 9 rfl, fun h => absurd h (by decide), fun _ => ⟨x_t 1700 rfl, Or.inr (x_t 1701 rfl)⟩, by decide +kernel, by decide +kernel, by decide +kernel, by decide +kernel, by decide +kernel⟩
set_option maxRecDepth 30000 in
theorem x_me266 : x_meP (xE 266) := ⟨x_t 1706 rfl, x_t 9 rfl, fun h => absurd h (by decide), fun _ => ⟨x_t 1704 rfl, Or.inr (x_t 1705 rfl)⟩, by decide +kernel, by decide +kernel, by decide +kernel, by decide +kernel, by decide +kernel⟩
set_option maxRecDepth 30000 in
theorem x_me267 : x_meP (xE 267) := ⟨x_t 1718 rfl, x_t 9 rfl, fun h => absurd h (by decide), fun _ => ⟨x_t 1716 rfl, Or.inr (x_t 1717 rfl)⟩, by decide +kernel, by decide +kernel, by decide +kernel, by decide +kernel, by decide +kernel⟩
set_option maxRecDepth 30000 in
theorem x_me268 : x_meP (xE 268) := ⟨x_t 1722 rfl, x_t 9 rfl, fun h => absurd h (by decide), fun _ => ⟨x_t 1720 rfl, Or.inr (x_t 1721 rfl)⟩, by decide +kernel, by decide +kernel, by decide +kernel, by decide +kernel, by decide +kernel⟩
set_option maxRecDepth 30000 in
theorem x_me269 : x_meP (xE 269) := ⟨x_t 1726 rfl, x_t 9 rfl, fun h => absurd h (by decide), fun _ => ⟨x_t 1724 rfl, Or.inr (x_t 1725 rfl)⟩, by decide +kernel, by decide +kernel, by decide +kernel, by decide +kernel, by decide +kernel⟩
set_option maxRecDepth 30000 in
theorem x_me270 : x_meP (xE 270) := ⟨x_t 1730 rfl, x_t 9 rfl, fun h => absurd h (by decide), fun _ => ⟨x_t 1728 rfl, Or.inr (x_t 1729 rfl)⟩, by decide +kernel, by decide +kernel, by decide +kernel, by decide +kernel, by decide +kernel⟩
set_option maxRecDepth 30000 in
theorem x_me271 : x_meP (xE 271) := ⟨x_t 1734 rfl, x_t 9 rfl, fun h => absurd h (by decide), fun _ => ⟨x_t 1732 rfl, Or.inr (x_t 1733 rfl)⟩, by decide +kernel, by decide +kernel, by decide +kernel, by decide +kernel, by decide +kernel⟩
set_option maxRecDepth 30000 in
theorem x_me272 : x_meP (xE 272) := ⟨x_t 1738 rfl, x_t 9 rfl, fun h => absurd h (by decide), fun _ => ⟨x_t 1736 rfl, Or.inr (x_t 1737 rfl)⟩, by decide +kernel, by decide +kernel, by decide +kernel, by decide +kernel, by decide +kernel⟩
set_option maxRecDepth 30000 in
theorem x_me273 : x_meP (xE 273) := ⟨x_t 911 rfl, x_t 21 rfl, fun _ => x_t 910 rfl, fun h => absurd h (by decide), by decide +kernel, by decide +kernel, by decide +kernel, by decide +kernel, by decide +kernel⟩
theorem x_mes0 : ∀ e ∈ xMs_0, x_meP e := List.forall_mem_cons.mpr ⟨x_me0, List.forall_mem_cons.mpr ⟨x_me1, List.forall_mem_cons.mpr ⟨x_me2, List.forall_mem_cons.mpr ⟨x_me3, List.forall_mem_cons.mpr ⟨x_me4, List.forall_mem_cons.mpr ⟨x_me5, List.forall_mem_cons.mpr ⟨x_me6, List.forall_mem_cons.mpr ⟨x_me7, List.forall_mem_cons.mpr ⟨x_me8, List.forall_mem_cons.mpr ⟨x_me9, List.forall_mem_cons.mpr ⟨x_me10, List.forall_mem_cons.mpr ⟨x_me11, List.forall_mem_cons.mpr ⟨x_me12, List.forall_mem_cons.mpr ⟨x_me13, List.forall_mem_cons.mpr ⟨x_me14, List.forall_mem_cons.mpr ⟨x_me15, List.forall_mem_cons.mpr ⟨x_me16, List.forall_mem_cons.mpr ⟨x_me17, List.forall_mem_cons.mpr ⟨x_me18, List.forall_mem_cons.mpr ⟨x_me19, List.forall_mem_cons.mpr ⟨x_me20, List.forall_mem_cons.mpr ⟨x_me21, List.forall_mem_cons.mpr ⟨x_me22, List.forall_mem_cons.mpr ⟨x_me23, List.forall_mem_cons.mpr ⟨x_me24, List.forall_mem_cons.mpr ⟨x_me25, List.forall_mem_cons.mpr ⟨x_me26, List.forall_mem_cons.mpr ⟨x_me27, List.forall_mem_cons.mpr ⟨x_me28, List.forall_mem_cons.mpr ⟨x_me29, List.forall_mem_cons.mpr ⟨x_me30, List.forall_mem_cons.mpr ⟨x_me31, List.forall_mem_cons.mpr ⟨x_me32, List.forall_mem_cons.mpr ⟨x_me33, List.forall_mem_cons.mpr ⟨x_me34, List.forall_mem_cons.mpr ⟨x_me35, List.forall_mem_cons.mpr ⟨x_me36, List.forall_mem_cons.mpr ⟨x_me37, List.forall_mem_cons.mpr ⟨x_me38, List.forall_mem_cons.mpr ⟨x_me39, fun _ h => absurd h List.not_mem_nil⟩⟩⟩⟩⟩⟩⟩⟩⟩⟩⟩⟩⟩⟩⟩⟩⟩⟩⟩⟩⟩⟩⟩⟩⟩⟩⟩⟩⟩⟩⟩⟩⟩⟩⟩⟩⟩⟩⟩⟩
theorem x_mes1 : ∀ e ∈ xMs_1, x_meP e := List.forall_mem_cons.mpr ⟨x_me40, List.forall_mem_cons.mpr ⟨x_me41, List.forall_mem_cons.mpr ⟨x_me42, List.forall_mem_cons.mpr ⟨x_me43, List.forall_mem_cons.mpr ⟨x_me44, List.forall_mem_cons.mpr ⟨x_me45, List.forall_mem_cons.mpr ⟨x_me46, List.forall_mem_cons.mpr ⟨x_me47, List.forall_mem_cons.mpr ⟨x_me48, List.forall_mem_cons.mpr ⟨x_me49, List.forall_mem_cons.mpr ⟨x_me50, List.forall_mem_cons.mpr ⟨x_me51, List.forall_mem_cons.mpr ⟨x_me52, List.forall_mem_cons.mpr ⟨x_me53, List.forall_mem_cons.mpr ⟨x_me54, List.forall_mem_cons.mpr ⟨x_me55, List.forall_mem_cons.mpr ⟨x_me56, List.forall_mem_cons.mpr ⟨x_me57, List.forall_mem_cons.mpr ⟨x_me58, List.forall_mem_cons.mpr ⟨x_me59, List.forall_mem_cons.mpr ⟨x_me60, List.forall_mem_cons.mpr ⟨x_me61, List.forall_mem_cons.mpr ⟨x_me62, List.forall_mem_cons.mpr ⟨x_me63, List.forall_mem_cons.mpr ⟨x_me64, List.forall_mem_cons.mpr ⟨x_me65, List.forall_mem_cons.mpr ⟨x_me66, List.forall_mem_cons.mpr ⟨x_me67, List.forall_mem_cons.mpr ⟨x_me68, List.forall_mem_cons.mpr ⟨x_me69, List.forall_mem_cons.mpr ⟨x_me70, List.forall_mem_cons.mpr ⟨x_me71, List.forall_mem_cons.mpr ⟨x_me72, List.forall_mem_cons.mpr ⟨x_me73, List.forall_mem_cons.mpr ⟨x_me74, List.forall_mem_cons.mpr ⟨x_me75, List.forall_mem_cons.mpr ⟨x_me76, List.forall_mem_cons.mpr ⟨x_me77, List.forall_mem_cons.mpr ⟨x_me78, List.forall_mem_cons.mpr ⟨x_me79, fun _ h => absurd h List.not_mem_nil⟩⟩⟩⟩⟩⟩⟩⟩⟩⟩⟩⟩⟩⟩⟩⟩⟩⟩⟩⟩⟩⟩⟩⟩⟩⟩⟩⟩⟩⟩⟩⟩⟩⟩⟩⟩⟩⟩⟩⟩
theorem x_mes2 : ∀ e ∈ xMs_2, x_meP e := List.forall_mem_cons.mpr ⟨x_me80, List.forall_mem_cons.mpr ⟨x_me81, List.forall_mem_cons.mpr ⟨x_me82, List.forall_mem_cons.mpr ⟨x_me83, List.forall_mem_cons.mpr ⟨x_me84, List.forall_mem_cons.mpr ⟨x_me85, List.forall_mem_cons.mpr ⟨x_me86, List.forall_mem_cons.mpr ⟨x_me87, List.forall_mem_cons.mpr ⟨x_me88, List.forall_mem_cons.mpr ⟨x_me89, List.forall_mem_cons.mpr ⟨x_me90, List.forall_mem_cons.mpr ⟨x_me91, List.forall_mem_cons.mpr ⟨x_me92, List.forall_mem_cons.mpr ⟨x_me93, List.forall_mem_cons.mpr ⟨x_me94, List.forall_mem_cons.mpr ⟨x_me95, List.forall_mem_cons.mpr ⟨x_me96, List.forall_mem_cons.mpr ⟨x_me97, List.forall_mem_cons.mpr ⟨x_me98, List.forall_mem_cons.mpr ⟨x_me99, List.forall_mem_cons.mpr ⟨x_me100, List.forall_mem_cons.mpr ⟨x_me101, List.forall_mem_cons.mpr ⟨x_me102, List.forall_mem_cons.mpr ⟨x_me103, List.forall_mem_cons.mpr ⟨x_me104, List.forall_mem_cons.mpr ⟨x_me105, List.forall_mem_cons.mpr ⟨x_me106, List.forall_mem_cons.mpr ⟨x_me107, List.forall_mem_cons.mpr ⟨x_me108, List.forall_mem_cons.mpr ⟨x_me109, List.forall_mem_cons.mpr ⟨x_me110, List.forall_mem_cons.mpr ⟨x_me111, List.forall_mem_cons.mpr ⟨x_me112, List.forall_mem_cons.mpr ⟨x_me113, List.forall_mem_cons.mpr ⟨x_me114, List.forall_mem_cons.mpr ⟨x_me115, List.forall_mem_cons.mpr ⟨x_me116, List.forall_mem_cons.mpr ⟨x_me117, List.forall_mem_cons.mpr ⟨x_me118, List.forall_mem_cons.mpr ⟨x_me119, fun _ h => absurd h List.not_mem_nil⟩⟩⟩⟩⟩⟩⟩⟩⟩⟩⟩⟩⟩⟩⟩⟩⟩⟩⟩⟩⟩⟩⟩⟩⟩⟩⟩⟩⟩⟩⟩⟩⟩⟩⟩⟩⟩⟩⟩⟩
theorem x_mes3 : ∀ e ∈ xMs_3, x_meP e := List.forall_mem_cons.mpr ⟨x_me120, List.forall_mem_cons.mpr ⟨x_me121, List.forall_mem_cons.mpr ⟨x_me122, List.forall_mem_cons.mpr ⟨x_me123, List.forall_mem_cons.mpr ⟨x_me124, List.forall_mem_cons.mpr ⟨x_me125, List.forall_mem_cons.mpr ⟨x_me126, List.forall_mem_cons.mpr ⟨x_me127, List.forall_mem_cons.mpr ⟨x_me128, List.forall_mem_cons.mpr ⟨x_me129, List.forall_mem_cons.mpr ⟨x_me130, List.forall_mem_cons.mpr ⟨x_me131, List.forall_mem_cons.mpr ⟨x_me132, List.forall_mem_cons.mpr ⟨x_me133, List.forall_mem_cons.mpr ⟨x_me134, List.forall_mem_cons.mpr ⟨x_me135, List.forall_mem_cons.mpr ⟨x_me136, List.forall_mem_cons.mpr ⟨x_me137, List.forall_mem_cons.mpr ⟨x_me138, List.forall_mem_cons.mpr ⟨x_me139, List.forall_mem_cons.mpr ⟨x_me140, List.forall_mem_cons.mpr ⟨x_me141, List.forall_mem_cons.mpr ⟨x_me142, List.forall_mem_cons.mpr ⟨x_me143, List.forall_mem_cons.mpr ⟨x_me144, List.forall_mem_cons.mpr ⟨x_me145, List.forall_mem_cons.mpr ⟨x_me146, List.forall_mem_cons.mpr ⟨x_me147, List.forall_mem_cons.mpr ⟨x_me148, List.forall_mem_cons.mpr ⟨x_me149, List.forall_mem_cons.mpr ⟨x_me150, List.forall_mem_cons.mpr ⟨x_me151, List.forall_mem_cons.mpr ⟨x_me152, List.forall_mem_cons.mpr ⟨x_me153, List.forall_mem_cons.mpr ⟨x_me154, List.forall_mem_cons.mpr ⟨x_me155, List.forall_mem_cons.mpr ⟨x_me156, List.forall_mem_cons.mpr ⟨x_me157, List.forall_mem_cons.mpr ⟨x_me158, List.forall_mem_cons.mpr ⟨x_me159, fun _ h => absurd h List.not_mem_nil⟩⟩⟩⟩⟩⟩⟩⟩⟩⟩⟩⟩⟩⟩⟩⟩⟩⟩⟩⟩⟩⟩⟩⟩⟩⟩⟩⟩⟩⟩⟩⟩⟩⟩⟩⟩⟩⟩⟩⟩
theorem x_mes4 : ∀ e ∈ xMs_4, x_meP e := List.forall_mem_cons.mpr ⟨x_me160, List.forall_mem_cons.mpr ⟨x_me161, List.forall_mem_cons.mpr ⟨x_me162, List.forall_mem_cons.mpr ⟨x_me163, List.forall_mem_cons.mpr ⟨x_me164, List.forall_mem_cons.mpr ⟨x_me165, List.forall_mem_cons.mpr ⟨x_me166, List.forall_mem_cons.mpr ⟨x_me167, List.forall_mem_cons.mpr ⟨x_me168, List.forall_mem_cons.mpr ⟨x_me169, List.forall_mem_cons.mpr ⟨x_me170, List.forall_mem_cons.mpr ⟨x_me171, List.forall_mem_cons.mpr ⟨x_me172, List.forall_mem_cons.mpr ⟨x_me173, List.forall_mem_cons.mpr ⟨x_me174, List.forall_mem_cons.mpr ⟨x_me175, List.forall_mem_cons.mpr ⟨x_me176, List.forall_mem_cons.mpr ⟨x_me177, List.forall_mem_cons.mpr ⟨x_me178, List.forall_mem_cons.mpr ⟨x_me179, List.forall_mem_cons.mpr ⟨x_me180, List.forall_mem_cons.mpr ⟨x_me181, List.forall_mem_cons.mpr ⟨x_me182, List.forall_mem_cons.mpr ⟨x_me183, List.forall_mem_cons.mpr ⟨x_me184, List.forall_mem_cons.mpr ⟨x_me185, List.forall_mem_cons.mpr ⟨x_me186, List.forall_mem_cons.mpr ⟨x_me187, List.forall_mem_cons.mpr ⟨x_me188, List.forall_mem_cons.mpr ⟨x_me189, List.forall_mem_cons.mpr ⟨x_me190, List.forall_mem_cons.mpr ⟨x_me191, List.forall_mem_cons.mpr ⟨x_me192, List.forall_mem_cons.mpr ⟨x_me193, List.forall_mem_cons.mpr ⟨x_me194, List.forall_mem_cons.mpr ⟨x_me195, List.forall_mem_cons.mpr ⟨x_me196, List.forall_mem_cons.mpr ⟨x_me197, List.forall_mem_cons.mpr ⟨x_me198, List.forall_mem_cons.mpr ⟨x_me199, fun _ h => absurd h List.not_mem_nil⟩⟩⟩⟩⟩⟩⟩⟩⟩⟩⟩⟩⟩⟩⟩⟩⟩⟩⟩⟩⟩⟩⟩⟩⟩⟩⟩⟩⟩⟩⟩⟩⟩⟩⟩⟩⟩⟩⟩⟩
theorem x_mes5 : ∀ e ∈ xMs_5, x_meP e := List.forall_mem_cons.mpr ⟨x_me200, List.forall_mem_cons.mpr ⟨x_me201, List.forall_mem_cons.mpr ⟨x_me202, List.forall_mem_cons.mpr ⟨x_me203, List.forall_mem_cons.mpr ⟨x_me204, List.forall_mem_cons.mpr ⟨x_me205, List.forall_mem_cons.mpr ⟨x_me206, List.forall_mem_cons.mpr ⟨x_me207, List.forall_mem_cons.mpr ⟨x_me208, List.forall_mem_cons.mpr ⟨x_me209, List.forall_mem_cons.mpr ⟨x_me210, List.forall_mem_cons.mpr ⟨x_me211, List.forall_mem_cons.mpr ⟨x_me212, List.forall_mem_cons.mpr ⟨x_me213, List.forall_mem_cons.mpr ⟨x_me214, List.forall_mem_cons.mpr ⟨x_me215, List.forall_mem_cons.mpr ⟨x_me216, List.forall_mem_cons.mpr ⟨x_me217, List.forall_mem_cons.mpr ⟨x_me218, List.forall_mem_cons.mpr ⟨x_me219, List.forall_mem_cons.mpr ⟨x_me220, List.forall_mem_cons.mpr ⟨x_me221, List.forall_mem_cons.mpr ⟨x_me222, List.forall_mem_cons.mpr ⟨x_me223, List.forall_mem_cons.mpr ⟨x_me224, List.forall_mem_cons.mpr ⟨x_me225, List.forall_mem_cons.mpr ⟨x_me226, List.forall_mem_cons.mpr ⟨x_me227, List.forall_mem_cons.mpr ⟨x_me228, List.forall_mem_cons.mpr ⟨x_me229, List.forall_mem_cons.mpr ⟨x_me230, List.forall_mem_cons.mpr ⟨x_me231, List.forall_mem_cons.mpr ⟨x_me232, List.forall_mem_cons.mpr ⟨x_me233, List.forall_mem_cons.mpr ⟨x_me234, List.forall_mem_cons.mpr ⟨x_me235, List.forall_mem_cons.mpr ⟨x_me236, List.forall_mem_cons.mpr ⟨x_me237, List.forall_mem_cons.mpr ⟨x_me238, List.forall_mem_cons.mpr ⟨x_me239, fun _ h => absurd h List.not_mem_nil⟩⟩⟩⟩⟩⟩⟩⟩⟩⟩⟩⟩⟩⟩⟩⟩⟩⟩⟩⟩⟩⟩⟩⟩⟩⟩⟩⟩⟩⟩⟩⟩⟩⟩⟩⟩⟩⟩⟩⟩
theorem x_mes6 : ∀ e ∈ xMs_6, x_meP e := List.forall_mem_cons.mpr ⟨x_me240, List.forall_mem_cons.mpr ⟨x_me241, List.forall_mem_cons.mpr ⟨x_me242, List.forall_mem_cons.mpr ⟨x_me243, List.forall_mem_cons.mpr ⟨x_me244, List.forall_mem_cons.mpr ⟨x_me245, List.forall_mem_cons.mpr ⟨x_me246, List.forall_mem_cons.mpr ⟨x_me247, List.forall_mem_cons.mpr ⟨x_me248, List.forall_mem_cons.mpr ⟨x_me249, List.forall_mem_cons.mpr ⟨x_me250, List.forall_mem_cons.mpr ⟨x_me251, List.forall_mem_cons.mpr ⟨x_me252, List.forall_mem_cons.mpr ⟨x_me253, List.forall_mem_cons.mpr ⟨x_me254, List.forall_mem_cons.mpr ⟨x_me255, List.forall_mem_cons.mpr ⟨x_me256, List.forall_mem_cons.mpr ⟨x_me257, List.forall_mem_cons.mpr ⟨x_me258, List.forall_mem_cons.mpr ⟨x_me259, List.forall_mem_cons.mpr ⟨x_me260, List.forall_mem_cons.mpr ⟨x_me261, List.forall_mem_cons.mpr ⟨x_me262, List.forall_mem_cons.mpr ⟨x_me263, List.forall_mem_cons.mpr ⟨x_me264, List.forall_mem_cons.mpr ⟨x_me265, List.forall_mem_cons.mpr ⟨x_me266, List.forall_mem_cons.mpr ⟨x_me267, List.forall_mem_cons.mpr ⟨x_me268, List.forall_mem_cons.mpr ⟨x_me269, List.forall_mem_cons.mpr ⟨x_me270, List.forall_mem_cons.mpr ⟨x_me271, List.forall_mem_cons.mpr ⟨x_me272, List.forall_mem_cons.mpr ⟨x_me273, fun _ h => absurd h List.not_mem_nil⟩⟩⟩⟩⟩⟩⟩⟩⟩⟩⟩⟩⟩⟩⟩⟩⟩⟩⟩⟩⟩⟩⟩⟩⟩⟩⟩⟩⟩⟩⟩⟩⟩⟩
theorem x_mes : ∀ e ∈ xMs, x_meP e := List.forall_mem_append.mpr ⟨x_mes0, List.forall_mem_append.mpr ⟨x_mes1, List.forall_mem_append.mpr ⟨x_mes2, List.forall_mem_append.mpr ⟨x_mes3, List.forall_mem_append.mpr ⟨x_mes4, List.forall_mem_append.mpr ⟨x_mes5, x_mes6⟩⟩⟩⟩⟩⟩
theorem x_meAt {k : Nat} (h : k < 274) : x_meP (xE k) := by
  refine x_mes _ ?_
  have hl : k < xMs.length := by
    rw [show xMs.length = 274 by decide +kernel]
    exact h
  unfold xE
  rw [List.getD_eq_getElem?_getD, List.getElem?_eq_getElem hl]
  exact List.getElem_mem hl
def xFL : List (Nat × Nat × Nat) := [(0, 9, 0), (4, 34, 0), (3, 154, 0), (0, 15, 1), (3, 159, 1), (7, 291, 1), (0, 18, 2), (7, 96, 2), (3, 80, 2), (0, 21, 3), (3, 125, 3), (7, 326, 3), (0, 24, 4), (3, 131, 4), (7, 329, 4), (0, 27, 5), (1, 40, 5), (3, 137, 5), (7, 225, 5), (0, 30, 6), (3, 225, 6), (7, 332, 6), (0, 33, 7), (7, 105, 7), (3, 162, 7), (0, 37, 8), (4, 41, 8), (3, 171, 8), (0, 40, 9), (7, 112, 9), (3, 176, 9), (0, 43, 10), (7, 118, 10), (3, 190, 10), (0, 46, 11), (1, 61, 11), (3, 222, 11), (7, 254, 11), (0, 49, 12), (1, 31, 12), (4, 48, 12), (3, 197, 12), (7, 245, 12), (0, 52, 13), (7, 218, 13), (0, 55, 14), (1, 55, 14), (3, 211, 14), (0, 58, 15), (1, 43, 15), (3, 214, 15), (0, 61, 16), (1, 46, 16), (3, 219, 16), (3, 9, 300), (7, 68, 300), (3, 15, 301), (7, 99, 301), (3, 21, 302), (7, 83, 302), (3, 25, 303), (3, 28, 304), (3, 32, 305), (3, 35, 306), (3, 38, 307), (3, 41, 308), (3, 44, 309), (3, 47, 310), (3, 51, 311), (3, 55, 312), (4, 9, 400), (7, 323, 400), (4, 15, 401), (7, 278, 401), (4, 18, 402), (7, 302, 402), (4, 21, 403), (7, 158, 403), (4, 24, 404), (7, 161, 404), (4, 27, 405), (7, 109, 405), (4, 31, 406), (7, 131, 406), (2, 9, 200), (7, 340, 200), (2, 15, 201), (7, 310, 201), (2, 18, 202), (2, 23, 203), (2, 27, 204), (6, 9, 600), (7, 145, 600), (5, 9, 500), (1, 9, 100), (1, 15, 101), (1, 19, 102), (1, 22, 103), (1, 25, 104), (1, 28, 105), (7, 10, 700), (7, 19, 701), (7, 26, 702), (7, 30, 703), (7, 36, 704), (7, 43, 705), (7, 50, 706), (7, 57, 707), (7, 61, 708), (7, 65, 709), (9, 51, 900), (9, 54, 901), (9, 9, 902), (9, 280, 903), (9, 148, 904), (9, 13, 905), (9, 273, 906), (9, 68, 907), (9, 86, 908), (9, 83, 909), (9, 92, 910), (9, 106, 911), (9, 109, 912), (9, 112, 913), (9, 99, 914), (9, 239, 915), (9, 17, 916), (9, 21, 917), (9, 24, 918), (9, 27, 919), (9, 285, 920), (9, 288, 921), (9, 30, 922), (9, 33, 923), (9, 303, 924), (9, 344, 925), (9, 365, 926), (9, 36, 927), (9, 39, 928), (9, 385, 929), (9, 42, 930), (9, 45, 931), (9, 48, 932), (9, 394, 933), (9, 403, 934), (9, 409, 935), (9, 442, 936), (8, 9, 800), (8, 47, 802), (8, 15, 807), (8, 19, 808), (8, 22, 809), (8, 25, 810), (8, 28, 811), (8, 31, 812), (8, 34, 813), (8, 37, 814), (8, 40, 815), (8, 43, 816)]
def xfw (e : Nat × Nat × Nat) : Cond := .fieldLink (xR e.1) e.2.1 (xkC (e.2.2 / 100)).1 ((xkC (e.2.2 / 100)).2.1 (e.2.2 % 100)).2.1 ((xkC (e.2.2 / 100)).2.1 (e.2.2 % 100)).2.2.1
theorem x_fl {e : Nat × Nat × Nat} (h : e ∈ xFL) : xfw e ∈ lw_tbl := List.mem_append_right _ (x_mem (big := tables_1) (xFL.map xfw) [42, 43, 44, 45, 46, 47, 48, 49, 50, 51, 52, 53, 54, 55, 56, 57, 58, 59, 60, 61, 62, 63, 64, 65, 66, 67, 68, 69, 70, 71, 72, 73, 74, 75, 76, 77, 78, 79, 80, 81, 82, 83, 84, 85, 86, 87, 88, 89, 90, 91, 92, 93, 94, 95, 132, 133, 134, 135, 136, 137, 138, 139, 140, 141, 142, 143, 144, 145, 146, 147, 185, 186, 187, 188, 189, 190, 191, 192, 193, 194, 195, 196, 197, 198, 223, 224, 225, 226, 227, 228, 229, 247, 248, 258, 268, 269, 270, 271, 272, 273, 287, 288, 289, 290, 291, 292, 293, 294, 295, 296, 994, 995, 996, 997, 998, 999, 1000, 1001, 1002, 1003, 1004, 1005, 1006, 1007, 1008, 1009, 1010, 1011, 1012, 1013, 1014, 1015, 1016, 1017, 1018, 1019, 1020, 1021, 1022, 1023, 1024, 1025, 1026, 1027, 1028, 1029, 1030, 1128, 1131, 1137, 1139, 1141, 1143, 1145, 1147, 1149, 1151, 1153, 1155] (by decide +kernel) _ (List.mem_map_of_mem h))
def xFN : List (Nat × Nat × Nat) := [(9, 152, 800), (9, 198, 801), (9, 170, 802), (9, 227, 803), (9, 247, 804), (9, 255, 805), (9, 270, 806), (9, 220, 807), (9, 223, 808), (9, 225, 809), (9, 233, 810), (9, 268, 811), (9, 242, 812), (9, 260, 813), (9, 263, 814), (9, 266, 815), (9, 216, 816)]
def xHost (o : Nat) : String := if o < 8 then "LastAsked" else "LastAskedModel"
def xfn (e : Nat × Nat × Nat) : Cond := .fieldLinkNest (xR e.1) e.2.1 (xkC (e.2.2 / 100)).1 ((xkC (e.2.2 / 100)).2.1 (e.2.2 % 100)).2.1 ((xkC (e.2.2 / 100)).2.1 (e.2.2 % 100)).2.2.1 (xHost e.1)
theorem x_fn {e : Nat × Nat × Nat} (h : e ∈ xFN) : xfn e ∈ lw_tbl := List.mem_append_right _ (x_mem (big := tables_1) (xFN.map xfn) [1129, 1130, 1132, 1133, 1134, 1135, 1136, 1138, 1140, 1142, 1144, 1146, 1148, 1150, 1152, 1154, 1156] (by decide +kernel) _ (List.mem_map_of_mem h))
def xVL : List (Nat × Nat × Nat) := [(7, 35, 16), (7, 71, 23), (7, 75, 114), (7, 79, 24), (3, 65, 1), (3, 68, 36), (3, 72, 26), (3, 86, 27), (3, 89, 28), (3, 92, 29), (3, 76, 25), (3, 119, 37), (3, 148, 30), (3, 151, 31), (3, 122, 38), (3, 110, 32), (3, 113, 33), (3, 166, 39), (3, 128, 40), (3, 187, 35), (3, 116, 34), (3, 134, 42), (3, 206, 41), (3, 203, 4), (3, 140, 43), (3, 143, 44), (3, 83, 5), (7, 86, 2), (7, 90, 46), (4, 37, 3), (7, 93, 17), (7, 102, 116), (7, 115, 48), (7, 121, 126), (7, 343, 4), (7, 124, 127), (7, 127, 117), (7, 134, 125), (7, 138, 119), (7, 141, 129), (7, 250, 57), (6, 19, 58), (7, 148, 130), (7, 151, 131), (7, 170, 124), (7, 173, 59), (7, 154, 115), (7, 164, 128), (7, 167, 118), (7, 176, 62), (7, 179, 60), (7, 184, 133), (7, 196, 132), (7, 188, 135), (7, 350, 136), (7, 192, 134), (7, 199, 61), (7, 202, 120), (7, 206, 137), (7, 354, 138), (7, 209, 139), (7, 275, 47), (7, 294, 49), (7, 212, 140), (7, 357, 53), (5, 19, 54), (7, 215, 55), (7, 361, 141), (7, 221, 10), (1, 74, 7), (1, 78, 9), (1, 58, 8), (1, 64, 3), (1, 68, 58), (7, 228, 11), (7, 232, 8), (7, 235, 12), (7, 239, 13), (1, 82, 14), (1, 86, 15), (7, 242, 15), (7, 246, 3), (7, 257, 121), (7, 260, 142), (7, 264, 143), (7, 268, 122), (7, 271, 144), (7, 281, 145), (7, 364, 50), (7, 298, 51), (4, 63, 59), (7, 285, 123), (7, 288, 18), (2, 31, 47), (7, 306, 19), (7, 313, 20), (7, 316, 21), (7, 335, 273), (9, 57, 151), (9, 276, 146), (9, 119, 165), (9, 89, 161), (9, 95, 162), (9, 103, 163), (9, 277, 173), (9, 164, 174), (9, 122, 167), (9, 115, 164), (9, 173, 175), (9, 126, 166), (9, 192, 169), (9, 130, 156), (9, 176, 176), (9, 200, 171), (9, 156, 170), (9, 160, 147), (9, 179, 177), (9, 230, 172), (9, 235, 157), (9, 182, 179), (9, 250, 178), (9, 244, 148), (9, 185, 180), (9, 188, 181), (9, 167, 168), (9, 282, 189), (9, 61, 154), (9, 291, 186), (9, 321, 198), (9, 318, 199), (9, 323, 200), (9, 326, 187), (9, 329, 203), (9, 315, 188), (9, 300, 192), (9, 294, 190), (9, 297, 191), (9, 332, 197), (9, 309, 193), (9, 335, 205), (9, 312, 195), (9, 306, 194), (9, 338, 210), (9, 341, 158), (9, 356, 219), (9, 349, 218), (9, 352, 217), (9, 359, 160), (9, 64, 159), (9, 371, 226), (9, 375, 225), (9, 368, 224), (9, 388, 231), (9, 381, 229), (9, 378, 230), (9, 406, 240), (9, 397, 238), (9, 391, 237), (9, 400, 239), (9, 412, 244), (9, 415, 250), (9, 418, 152), (9, 421, 249), (9, 425, 248), (9, 429, 252), (9, 450, 257), (9, 454, 256), (9, 445, 255), (9, 438, 196), (9, 457, 261), (9, 460, 262), (9, 463, 153), (9, 466, 155)]
def xvw (e : Nat × Nat × Nat) : Cond := .methodLink (xR e.1) e.2.1 (xE e.2.2).1
theorem x_vl {e : Nat × Nat × Nat} (h : e ∈ xVL) : xvw e ∈ lw_tbl := List.mem_append_right _ (x_mem (big := tables_1) (xVL.map xvw) [216, 322, 330, 334, 341, 345, 349, 353, 357, 362, 366, 370, 375, 379, 389, 393, 398, 402, 412, 416, 420, 427, 431, 438, 444, 449, 453, 459, 466, 470, 475, 491, 495, 500, 504, 505, 513, 517, 522, 526, 530, 535, 543, 551, 555, 556, 564, 572, 580, 596, 608, 617, 621, 626, 630, 637, 649, 657, 661, 665, 668, 672, 676, 690, 694, 699, 705, 709, 733, 737, 745, 749, 753, 754, 759, 763, 768, 776, 780, 784, 792, 797, 802, 806, 813, 824, 829, 833, 837, 842, 846, 859, 863, 867, 885, 893, 901, 909, 1118, 1124, 1192, 1196, 1200, 1204, 1207, 1211, 1216, 1220, 1271, 1275, 1280, 1284, 1289, 1293, 1297, 1306, 1316, 1320, 1324, 1327, 1331, 1335, 1341, 1346, 1350, 1354, 1358, 1374, 1378, 1382, 1386, 1394, 1402, 1406, 1410, 1414, 1418, 1426, 1430, 1434, 1442, 1446, 1462, 1486, 1493, 1497, 1502, 1506, 1510, 1529, 1533, 1538, 1550, 1554, 1558, 1582, 1586, 1590, 1594, 1610, 1626, 1630, 1634, 1637, 1644, 1655, 1660, 1664, 1671, 1687, 1691, 1707, 1711] (by decide +kernel) _ (List.mem_map_of_mem h))
def xVN : List (Nat × Nat × Nat) := [(7, 9, 22), (3, 20, 0), (7, 18, 0), (7, 25, 45), (2, 30, 45), (7, 42, 56), (7, 49, 52), (7, 56, 6), (3, 193, 124), (3, 200, 125), (0, 70, 124), (0, 74, 125), (4, 49, 124), (6, 15, 124), (6, 23, 125), (4, 53, 125), (5, 15, 124), (5, 23, 125), (8, 50, 157)]
def xvn (e : Nat × Nat × Nat) : Cond := .methodLinkNest (xR e.1) e.2.1 (xE e.2.2).1 (xHost e.1)
theorem x_vn {e : Nat × Nat × Nat} (h : e ∈ xVN) : xvn e ∈ lw_tbl := List.mem_append_right _ (x_mem (big := tables_1) (xVN.map xvn) [32, 38, 178, 181, 222, 243, 254, 264, 424, 435, 442, 457, 499, 534, 538, 680, 698, 703, 1339] (by decide +kernel) _ (List.mem_map_of_mem h))
def xOL : List (Nat × Nat) := [(7, 1), (3, 3), (0, 3), (4, 3), (2, 3), (6, 3), (5, 3), (1, 3), (9, 3), (8, 3)]
def xOLw (e : Nat × Nat) : Cond := .methodLink (xR e.1) e.2 objectInit
theorem xOL_in {e : Nat × Nat} (h : e ∈ xOL) : xOLw e ∈ lw_tbl := List.mem_append_right _ (x_mem (big := tables_1) (xOL.map xOLw) [27, 35, 41, 184, 219, 246, 257, 267, 993, 1127] (by decide +kernel) _ (List.mem_map_of_mem h))
def xMI : List (Nat × Nat) := [(3, 59), (0, 78), (4, 57), (5, 27), (2, 35)]
def xMIw (e : Nat × Nat) : Cond := .methodLink (xR e.1) e.2 Lib.Math.min.name
theorem xMI_in {e : Nat × Nat} (h : e ∈ xMI) : xMIw e ∈ lw_tbl := List.mem_append_right _ (x_mem (big := tables_1) (xMI.map xMIw) [338, 458, 681, 704, 868] (by decide +kernel) _ (List.mem_map_of_mem h))
def xMA : List (Nat × Nat) := [(1, 49)]
def xMAw (e : Nat × Nat) : Cond := .methodLink (xR e.1) e.2 Lib.Math.max.name
theorem xMA_in {e : Nat × Nat} (h : e ∈ xMA) : xMAw e ∈ lw_tbl := List.mem_append_right _ (x_mem (big := tables_1) (xMA.map xMAw) [742] (by decide +kernel) _ (List.mem_map_of_mem h))
def xAL : List (Nat × Nat) := [(0, 64), (4, 42), (1, 34)]
def xALw (e : Nat × Nat) : Cond := .methodLink (xR e.1) e.2 arraycopyName
theorem xAL_in {e : Nat × Nat} (h : e ∈ xAL) : xALw e ∈ lw_tbl := List.mem_append_right _ (x_mem (big := tables_1) (xAL.map xALw) [463, 474, 741] (by decide +kernel) _ (List.mem_map_of_mem h))
def xCK : List (Nat × Nat × Nat) := [(7, 7, 3), (3, 18, 0), (7, 16, 0), (7, 23, 4), (7, 33, 2), (2, 21, 4), (7, 40, 6), (7, 47, 5), (7, 54, 1), (9, 153, 8)]
def xckw (e : Nat × Nat × Nat) : Cond := .classLink (xR e.1) e.2.1 (xR e.2.2)
theorem x_ck {e : Nat × Nat × Nat} (h : e ∈ xCK) : xckw e ∈ lw_tbl := List.mem_append_right _ (x_mem (big := tables_1) (xCK.map xckw) [30, 36, 177, 179, 214, 220, 241, 252, 262, 1122] (by decide +kernel) _ (List.mem_map_of_mem h))
def xKI : List (Nat × Nat × Int32) := [(7, 305, 65536), (4, 62, 65537), (10, 265, 1431655765), (10, 266, 858993459), (10, 267, 252645135), (9, 449, 65536)]
def xkiw (e : Nat × Nat × Int32) : Cond := .constant (xR e.1) e.2.1 e.2.2
theorem x_ki {e : Nat × Nat × Int32} (h : e ∈ xKI) : xkiw e ∈ lw_tbl := List.mem_append_right _ (x_mem (big := tables_1) (xKI.map xkiw) [828, 841, 912, 913, 914, 1659] (by decide +kernel) _ (List.mem_map_of_mem h))
def xKL : List (Nat × Nat × Int64) := [(3, 96, 1667855481), (3, 146, 1752135026), (3, 157, 444150998387), (3, 98, 123581014175598), (3, 100, 1852137842), (3, 102, 418548245860), (3, 104, 448377483876), (3, 106, 2003136116), (3, 108, 6513012), (3, 179, 482854660462), (3, 181, 1936225652), (3, 183, 131260314576228), (3, 185, 110429572722546), (3, 169, 6840691), (3, 174, 1684628851), (3, 209, 24948), (3, 217, 1734964837), (7, 182, (-1)), (7, 346, 100), (7, 348, 1000000000000), (9, 77, 32), (9, 347, 100), (9, 363, (-1)), (9, 432, 75), (9, 434, 74), (9, 436, 65537)]
def xklw (e : Nat × Nat × Int64) : Cond := .constantLong (xR e.1) e.2.1 e.2.2
theorem x_kl {e : Nat × Nat × Int64} (h : e ∈ xKL) : xklw e ∈ lw_tbl := List.mem_append_right _ (x_mem (big := tables_1) (xKL.map xklw) [361, 374, 383, 384, 385, 386, 387, 388, 397, 406, 407, 408, 409, 410, 411, 443, 448, 616, 625, 629, 1203, 1501, 1537, 1668, 1669, 1670] (by decide +kernel) _ (List.mem_map_of_mem h))
def xStr : List String := ["city", "hour", "gives", "person", "near", "asked", "heard", "went", "cat", "plain", "shut", "walled", "doctor", "has", "dies", "at", "give"]
def xKS : List (Nat × Nat × Nat) := [(9, 134, 0), (9, 191, 1), (9, 196, 2), (9, 136, 3), (9, 138, 4), (9, 140, 5), (9, 142, 6), (9, 144, 7), (9, 146, 8), (9, 204, 9), (9, 206, 10), (9, 208, 11), (9, 210, 12), (9, 212, 13), (9, 214, 14), (9, 253, 15), (9, 258, 16)]
def xksw (e : Nat × Nat × Nat) : Cond := .stringRef (xR e.1) e.2.1 (xStr.getD e.2.2 "")
theorem x_ks {e : Nat × Nat × Nat} (h : e ∈ xKS) : xksw e ∈ lw_tbl := List.mem_append_right _ (x_mem (big := tables_1) (xKS.map xksw) [1215, 1279, 1287, 1288, 1301, 1302, 1303, 1304, 1305, 1310, 1311, 1312, 1313, 1314, 1315, 1340, 1345] (by decide +kernel) _ (List.mem_map_of_mem h))
set_option maxRecDepth 30000 in
theorem x_ins0 : Cond.instantiable (xR 0) (xNF 0) ∈ lw_tbl ∧ Cond.initialized (xR 0) ∈ lw_tbl := ⟨x_t 37 rfl, x_t 3 rfl⟩
set_option maxRecDepth 30000 in
theorem x_ins1 : Cond.instantiable (xR 1) (xNF 1) ∈ lw_tbl ∧ Cond.initialized (xR 1) ∈ lw_tbl := ⟨x_t 263 rfl, x_t 8 rfl⟩
set_option maxRecDepth 30000 in
theorem x_ins2 : Cond.instantiable (xR 2) (xNF 2) ∈ lw_tbl ∧ Cond.initialized (xR 2) ∈ lw_tbl := ⟨x_t 215 rfl, x_t 5 rfl⟩
set_option maxRecDepth 30000 in
theorem x_ins3 : Cond.instantiable (xR 3) (xNF 3) ∈ lw_tbl ∧ Cond.initialized (xR 3) ∈ lw_tbl := ⟨x_t 31 rfl, x_t 2 rfl⟩
set_option maxRecDepth 30000 in
theorem x_ins4 : Cond.instantiable (xR 4) (xNF 4) ∈ lw_tbl ∧ Cond.initialized (xR 4) ∈ lw_tbl := ⟨x_t 180 rfl, x_t 4 rfl⟩
set_option maxRecDepth 30000 in
theorem x_ins5 : Cond.instantiable (xR 5) (xNF 5) ∈ lw_tbl ∧ Cond.initialized (xR 5) ∈ lw_tbl := ⟨x_t 253 rfl, x_t 7 rfl⟩
set_option maxRecDepth 30000 in
theorem x_ins6 : Cond.instantiable (xR 6) (xNF 6) ∈ lw_tbl ∧ Cond.initialized (xR 6) ∈ lw_tbl := ⟨x_t 242 rfl, x_t 6 rfl⟩
set_option maxRecDepth 30000 in
theorem x_ins7 : Cond.instantiable (xR 7) (xNF 7) ∈ lw_tbl ∧ Cond.initialized (xR 7) ∈ lw_tbl := ⟨x_t 23 rfl, x_t 1 rfl⟩
set_option maxRecDepth 30000 in
theorem x_ins8 : Cond.instantiable (xR 8) (xNF 8) ∈ lw_tbl ∧ Cond.initialized (xR 8) ∈ lw_tbl := ⟨x_t 1123 rfl, x_t 12 rfl⟩
set_option maxRecDepth 30000 in
theorem x_ins9 : Cond.instantiable (xR 9) (xNF 9) ∈ lw_tbl ∧ Cond.initialized (xR 9) ∈ lw_tbl := ⟨x_t 989 rfl, x_t 9 rfl⟩
theorem x_ins (c : Nat) (h : c < 10) : Cond.instantiable (xR c) (xNF c) ∈ lw_tbl ∧ Cond.initialized (xR c) ∈ lw_tbl := by
  rcases (show c = 0 ∨ c = 1 ∨ c = 2 ∨ c = 3 ∨ c = 4 ∨ c = 5 ∨ c = 6 ∨ c = 7 ∨ c = 8 ∨ c = 9 by omega) with rfl | rfl | rfl | rfl | rfl | rfl | rfl | rfl | rfl | rfl
  · exact x_ins0
  · exact x_ins1
  · exact x_ins2
  · exact x_ins3
  · exact x_ins4
  · exact x_ins5
  · exact x_ins6
  · exact x_ins7
  · exact x_ins8
  · exact x_ins9
end
section
abbrev xCe : Type := Nat × Instr × Nat × Nat × Int32 × Int64
/-- LastAsked$City.<init>()V -/
def xc_0 : List xCe := [(0, .aload_n 0, 1, 0, 0, 0), (1, .invokespecial 3, 3, 9000, 0, 0), (4, .aload_n 0, 1, 0, 0, 0), (5, .iconst 0, 1, 0, 0, 0), (6, .putfield 9, 3, 0, 0, 0), (9, .aload_n 0, 1, 0, 0, 0), (10, .iconst 0, 1, 0, 0, 0), (11, .putfield 15, 3, 1, 0, 0), (14, .aload_n 0, 1, 0, 0, 0), (15, .iconst 0, 1, 0, 0, 0), (16, .putfield 18, 3, 2, 0, 0), (19, .aload_n 0, 1, 0, 0, 0), (20, .iconst 0, 1, 0, 0, 0), (21, .putfield 21, 3, 3, 0, 0), (24, .aload_n 0, 1, 0, 0, 0), (25, .iconst 0, 1, 0, 0, 0), (26, .putfield 24, 3, 4, 0, 0), (29, .aload_n 0, 1, 0, 0, 0), (30, .iconst 0, 1, 0, 0, 0), (31, .putfield 27, 3, 5, 0, 0), (34, .aload_n 0, 1, 0, 0, 0), (35, .iconst 0, 1, 0, 0, 0), (36, .putfield 30, 3, 6, 0, 0), (39, .aload_n 0, 1, 0, 0, 0), (40, .bipush 6, 2, 0, 6, 0), (42, .newarray .int, 2, 11, 0, 0), (44, .putfield 33, 3, 7, 0, 0), (47, .aload_n 0, 1, 0, 0, 0), (48, .bipush 6, 2, 0, 6, 0), (50, .newarray .int, 2, 11, 0, 0), (52, .putfield 37, 3, 8, 0, 0), (55, .aload_n 0, 1, 0, 0, 0), (56, .bipush 6, 2, 0, 6, 0), (58, .newarray .int, 2, 11, 0, 0), (60, .putfield 40, 3, 9, 0, 0), (63, .aload_n 0, 1, 0, 0, 0), (64, .bipush 6, 2, 0, 6, 0), (66, .newarray .int, 2, 11, 0, 0), (68, .putfield 43, 3, 10, 0, 0), (71, .aload_n 0, 1, 0, 0, 0), (72, .bipush 6, 2, 0, 6, 0), (74, .newarray .int, 2, 11, 0, 0), (76, .putfield 46, 3, 11, 0, 0), (79, .aload_n 0, 1, 0, 0, 0), (80, .bipush 36, 2, 0, 36, 0), (82, .newarray .int, 2, 11, 0, 0), (84, .putfield 49, 3, 12, 0, 0), (87, .aload_n 0, 1, 0, 0, 0), (88, .bipush 36, 2, 0, 36, 0), (90, .newarray .int, 2, 11, 0, 0), (92, .putfield 52, 3, 13, 0, 0), (95, .aload_n 0, 1, 0, 0, 0), (96, .iconst 3, 1, 0, 3, 0), (97, .newarray .int, 2, 11, 0, 0), (99, .putfield 55, 3, 14, 0, 0), (102, .aload_n 0, 1, 0, 0, 0), (103, .iconst 3, 1, 0, 3, 0), (104, .newarray .int, 2, 11, 0, 0), (106, .putfield 58, 3, 15, 0, 0), (109, .aload_n 0, 1, 0, 0, 0), (110, .iconst 3, 1, 0, 3, 0), (111, .newarray .int, 2, 11, 0, 0), (113, .putfield 61, 3, 16, 0, 0), (116, .return_, 1, 0, 0, 0)]
/-- LastAsked$City.clear()V -/
def xc_1 : List xCe := [(0, .aload_n 0, 1, 0, 0, 0), (1, .iconst 0, 1, 0, 0, 0), (2, .putfield 9, 3, 0, 0, 0), (5, .aload_n 0, 1, 0, 0, 0), (6, .iconst 0, 1, 0, 0, 0), (7, .putfield 15, 3, 1, 0, 0), (10, .aload_n 0, 1, 0, 0, 0), (11, .iconst 0, 1, 0, 0, 0), (12, .putfield 18, 3, 2, 0, 0), (15, .aload_n 0, 1, 0, 0, 0), (16, .iconst 0, 1, 0, 0, 0), (17, .putfield 21, 3, 3, 0, 0), (20, .aload_n 0, 1, 0, 0, 0), (21, .iconst 0, 1, 0, 0, 0), (22, .putfield 24, 3, 4, 0, 0), (25, .aload_n 0, 1, 0, 0, 0), (26, .iconst 0, 1, 0, 0, 0), (27, .putfield 27, 3, 5, 0, 0), (30, .aload_n 0, 1, 0, 0, 0), (31, .iconst 0, 1, 0, 0, 0), (32, .putfield 30, 3, 6, 0, 0), (35, .iconst 0, 1, 0, 0, 0), (36, .istore_n 1, 1, 0, 0, 0), (37, .iload_n 1, 1, 0, 0, 0), (38, .bipush 6, 2, 0, 6, 0), (40, .if_icmp .ge 24, 3, 64, 0, 0), (43, .aload_n 0, 1, 0, 0, 0), (44, .getfield 43, 3, 10, 0, 0), (47, .iload_n 1, 1, 0, 0, 0), (48, .iconst 0, 1, 0, 0, 0), (49, .iastore, 1, 0, 0, 0), (50, .aload_n 0, 1, 0, 0, 0), (51, .getfield 46, 3, 11, 0, 0), (54, .iload_n 1, 1, 0, 0, 0), (55, .bipush (-3), 2, 0, (-3), 0), (57, .iastore, 1, 0, 0, 0), (58, .iinc 1 1, 3, 0, 1, 0), (61, .goto (-24), 3, 37, 0, 0), (64, .iconst 0, 1, 0, 0, 0), (65, .istore_n 1, 1, 0, 0, 0), (66, .iload_n 1, 1, 0, 0, 0), (67, .bipush 36, 2, 0, 36, 0), (69, .if_icmp .ge 17, 3, 86, 0, 0), (72, .aload_n 0, 1, 0, 0, 0), (73, .getfield 49, 3, 12, 0, 0), (76, .iload_n 1, 1, 0, 0, 0), (77, .bipush (-2), 2, 0, (-2), 0), (79, .iastore, 1, 0, 0, 0), (80, .iinc 1 1, 3, 0, 1, 0), (83, .goto (-17), 3, 66, 0, 0), (86, .return_, 1, 0, 0, 0)]
/-- LastAsked$City.copy(LLastAsked$City;)V -/
def xc_2 : List xCe := [(0, .aload_n 0, 1, 0, 0, 0), (1, .aload_n 1, 1, 0, 0, 0), (2, .getfield 9, 3, 0, 0, 0), (5, .putfield 9, 3, 0, 0, 0), (8, .aload_n 0, 1, 0, 0, 0), (9, .aload_n 1, 1, 0, 0, 0), (10, .getfield 15, 3, 1, 0, 0), (13, .putfield 15, 3, 1, 0, 0), (16, .aload_n 0, 1, 0, 0, 0), (17, .aload_n 1, 1, 0, 0, 0), (18, .getfield 18, 3, 2, 0, 0), (21, .putfield 18, 3, 2, 0, 0), (24, .aload_n 0, 1, 0, 0, 0), (25, .aload_n 1, 1, 0, 0, 0), (26, .getfield 21, 3, 3, 0, 0), (29, .putfield 21, 3, 3, 0, 0), (32, .aload_n 0, 1, 0, 0, 0), (33, .aload_n 1, 1, 0, 0, 0), (34, .getfield 24, 3, 4, 0, 0), (37, .putfield 24, 3, 4, 0, 0), (40, .aload_n 0, 1, 0, 0, 0), (41, .aload_n 1, 1, 0, 0, 0), (42, .getfield 27, 3, 5, 0, 0), (45, .putfield 27, 3, 5, 0, 0), (48, .aload_n 0, 1, 0, 0, 0), (49, .aload_n 1, 1, 0, 0, 0), (50, .getfield 30, 3, 6, 0, 0), (53, .putfield 30, 3, 6, 0, 0), (56, .aload_n 1, 1, 0, 0, 0), (57, .getfield 33, 3, 7, 0, 0), (60, .iconst 0, 1, 0, 0, 0), (61, .aload_n 0, 1, 0, 0, 0), (62, .getfield 33, 3, 7, 0, 0), (65, .iconst 0, 1, 0, 0, 0), (66, .bipush 6, 2, 0, 6, 0), (68, .invokestatic 64, 3, 9003, 0, 0), (71, .aload_n 1, 1, 0, 0, 0), (72, .getfield 37, 3, 8, 0, 0), (75, .iconst 0, 1, 0, 0, 0), (76, .aload_n 0, 1, 0, 0, 0), (77, .getfield 37, 3, 8, 0, 0), (80, .iconst 0, 1, 0, 0, 0), (81, .bipush 6, 2, 0, 6, 0), (83, .invokestatic 64, 3, 9003, 0, 0), (86, .aload_n 1, 1, 0, 0, 0), (87, .getfield 40, 3, 9, 0, 0), (90, .iconst 0, 1, 0, 0, 0), (91, .aload_n 0, 1, 0, 0, 0), (92, .getfield 40, 3, 9, 0, 0), (95, .iconst 0, 1, 0, 0, 0), (96, .bipush 6, 2, 0, 6, 0), (98, .invokestatic 64, 3, 9003, 0, 0), (101, .aload_n 1, 1, 0, 0, 0), (102, .getfield 43, 3, 10, 0, 0), (105, .iconst 0, 1, 0, 0, 0), (106, .aload_n 0, 1, 0, 0, 0), (107, .getfield 43, 3, 10, 0, 0), (110, .iconst 0, 1, 0, 0, 0), (111, .bipush 6, 2, 0, 6, 0), (113, .invokestatic 64, 3, 9003, 0, 0), (116, .aload_n 1, 1, 0, 0, 0), (117, .getfield 46, 3, 11, 0, 0), (120, .iconst 0, 1, 0, 0, 0), (121, .aload_n 0, 1, 0, 0, 0), (122, .getfield 46, 3, 11, 0, 0), (125, .iconst 0, 1, 0, 0, 0), (126, .bipush 6, 2, 0, 6, 0), (128, .invokestatic 64, 3, 9003, 0, 0), (131, .aload_n 1, 1, 0, 0, 0), (132, .getfield 49, 3, 12, 0, 0), (135, .iconst 0, 1, 0, 0, 0), (136, .aload_n 0, 1, 0, 0, 0), (137, .getfield 49, 3, 12, 0, 0), (140, .iconst 0, 1, 0, 0, 0), (141, .bipush 36, 2, 0, 36, 0), (143, .invokestatic 64, 3, 9003, 0, 0), (146, .aload_n 1, 1, 0, 0, 0), (147, .getfield 52, 3, 13, 0, 0), (150, .iconst 0, 1, 0, 0, 0), (151, .aload_n 0, 1, 0, 0, 0), (152, .getfield 52, 3, 13, 0, 0), (155, .iconst 0, 1, 0, 0, 0), (156, .bipush 36, 2, 0, 36, 0), (158, .invokestatic 64, 3, 9003, 0, 0), (161, .aload_n 1, 1, 0, 0, 0), (162, .getfield 55, 3, 14, 0, 0), (165, .iconst 0, 1, 0, 0, 0), (166, .aload_n 0, 1, 0, 0, 0), (167, .getfield 55, 3, 14, 0, 0), (170, .iconst 0, 1, 0, 0, 0), (171, .iconst 3, 1, 0, 3, 0), (172, .invokestatic 64, 3, 9003, 0, 0), (175, .aload_n 1, 1, 0, 0, 0), (176, .getfield 58, 3, 15, 0, 0), (179, .iconst 0, 1, 0, 0, 0), (180, .aload_n 0, 1, 0, 0, 0), (181, .getfield 58, 3, 15, 0, 0), (184, .iconst 0, 1, 0, 0, 0), (185, .iconst 3, 1, 0, 3, 0), (186, .invokestatic 64, 3, 9003, 0, 0), (189, .aload_n 1, 1, 0, 0, 0), (190, .getfield 61, 3, 16, 0, 0), (193, .iconst 0, 1, 0, 0, 0), (194, .aload_n 0, 1, 0, 0, 0), (195, .getfield 61, 3, 16, 0, 0), (198, .iconst 0, 1, 0, 0, 0), (199, .iconst 3, 1, 0, 3, 0), (200, .invokestatic 64, 3, 9003, 0, 0), (203, .return_, 1, 0, 0, 0)]
/-- LastAsked$City.everybody()I -/
def xc_3 : List xCe := [(0, .iconst 1, 1, 0, 1, 0), (1, .aload_n 0, 1, 0, 0, 0), (2, .getfield 18, 3, 2, 0, 0), (5, .ishl, 1, 0, 0, 0), (6, .iconst 1, 1, 0, 1, 0), (7, .isub, 1, 0, 0, 0), (8, .ireturn, 1, 0, 0, 0)]
/-- LastAsked$City.allows(II)Z -/
def xc_4 : List xCe := [(0, .iload_n 1, 1, 0, 0, 0), (1, .iload_n 2, 1, 0, 0, 0), (2, .if_icmp .eq 50, 3, 52, 0, 0), (5, .aload_n 0, 1, 0, 0, 0), (6, .getfield 33, 3, 7, 0, 0), (9, .iload_n 1, 1, 0, 0, 0), (10, .iaload, 1, 0, 0, 0), (11, .iconst 3, 1, 0, 3, 0), (12, .if_icmp .eq 40, 3, 52, 0, 0), (15, .aload_n 0, 1, 0, 0, 0), (16, .getfield 33, 3, 7, 0, 0), (19, .iload_n 2, 1, 0, 0, 0), (20, .iaload, 1, 0, 0, 0), (21, .iconst 1, 1, 0, 1, 0), (22, .if_icmp .eq 30, 3, 52, 0, 0), (25, .aload_n 0, 1, 0, 0, 0), (26, .getfield 33, 3, 7, 0, 0), (29, .iload_n 2, 1, 0, 0, 0), (30, .iaload, 1, 0, 0, 0), (31, .iconst 2, 1, 0, 2, 0), (32, .if_icmp .ne 16, 3, 48, 0, 0), (35, .aload_n 0, 1, 0, 0, 0), (36, .getfield 43, 3, 10, 0, 0), (39, .iload_n 2, 1, 0, 0, 0), (40, .iaload, 1, 0, 0, 0), (41, .iload_n 1, 1, 0, 0, 0), (42, .invokestatic 70, 3, 124, 0, 0), (45, .ifCond .eq 7, 3, 52, 0, 0), (48, .iconst 1, 1, 0, 1, 0), (49, .goto 4, 3, 53, 0, 0), (52, .iconst 0, 1, 0, 0, 0), (53, .ireturn, 1, 0, 0, 0)]
/-- LastAsked$City.measureWays()V -/
def xc_5 : List xCe := [(0, .iconst 0, 1, 0, 0, 0), (1, .istore_n 1, 1, 0, 0, 0), (2, .iload_n 1, 1, 0, 0, 0), (3, .bipush 36, 2, 0, 36, 0), (5, .if_icmp .ge 54, 3, 59, 0, 0), (8, .iload_n 1, 1, 0, 0, 0), (9, .bipush 6, 2, 0, 6, 0), (11, .idiv, 1, 0, 0, 0), (12, .istore_n 2, 1, 0, 0, 0), (13, .iload_n 1, 1, 0, 0, 0), (14, .bipush 6, 2, 0, 6, 0), (16, .irem, 1, 0, 0, 0), (17, .istore_n 3, 1, 0, 0, 0), (18, .aload_n 0, 1, 0, 0, 0), (19, .getfield 52, 3, 13, 0, 0), (22, .iload_n 1, 1, 0, 0, 0), (23, .iload_n 2, 1, 0, 0, 0), (24, .iload_n 3, 1, 0, 0, 0), (25, .if_icmp .ne 7, 3, 32, 0, 0), (28, .iconst 0, 1, 0, 0, 0), (29, .goto 23, 3, 52, 0, 0), (32, .aload_n 0, 1, 0, 0, 0), (33, .getfield 43, 3, 10, 0, 0), (36, .iload_n 2, 1, 0, 0, 0), (37, .iaload, 1, 0, 0, 0), (38, .iload_n 3, 1, 0, 0, 0), (39, .invokestatic 70, 3, 124, 0, 0), (42, .ifCond .eq 7, 3, 49, 0, 0), (45, .iconst 1, 1, 0, 1, 0), (46, .goto 6, 3, 52, 0, 0), (49, .sipush 1000, 3, 0, 1000, 0), (52, .iastore, 1, 0, 0, 0), (53, .iinc 1 1, 3, 0, 1, 0), (56, .goto (-54), 3, 2, 0, 0), (59, .iconst 0, 1, 0, 0, 0), (60, .istore_n 1, 1, 0, 0, 0), (61, .iload_n 1, 1, 0, 0, 0), (62, .bipush 6, 2, 0, 6, 0), (64, .if_icmp .ge 67, 3, 131, 0, 0), (67, .iconst 0, 1, 0, 0, 0), (68, .istore_n 2, 1, 0, 0, 0), (69, .iload_n 2, 1, 0, 0, 0), (70, .bipush 36, 2, 0, 36, 0), (72, .if_icmp .ge 53, 3, 125, 0, 0), (75, .aload_n 0, 1, 0, 0, 0), (76, .getfield 52, 3, 13, 0, 0), (79, .iload_n 2, 1, 0, 0, 0), (80, .bipush 6, 2, 0, 6, 0), (82, .idiv, 1, 0, 0, 0), (83, .iload_n 1, 1, 0, 0, 0), (84, .invokestatic 74, 3, 125, 0, 0), (87, .iaload, 1, 0, 0, 0), (88, .aload_n 0, 1, 0, 0, 0), (89, .getfield 52, 3, 13, 0, 0), (92, .iload_n 1, 1, 0, 0, 0), (93, .iload_n 2, 1, 0, 0, 0), (94, .bipush 6, 2, 0, 6, 0), (96, .irem, 1, 0, 0, 0), (97, .invokestatic 74, 3, 125, 0, 0), (100, .iaload, 1, 0, 0, 0), (101, .iadd, 1, 0, 0, 0), (102, .istore_n 3, 1, 0, 0, 0), (103, .aload_n 0, 1, 0, 0, 0), (104, .getfield 52, 3, 13, 0, 0), (107, .iload_n 2, 1, 0, 0, 0), (108, .aload_n 0, 1, 0, 0, 0), (109, .getfield 52, 3, 13, 0, 0), (112, .iload_n 2, 1, 0, 0, 0), (113, .iaload, 1, 0, 0, 0), (114, .iload_n 3, 1, 0, 0, 0), (115, .invokestatic 78, 3, 9001, 0, 0), (118, .iastore, 1, 0, 0, 0), (119, .iinc 2 1, 3, 0, 1, 0), (122, .goto (-53), 3, 69, 0, 0), (125, .iinc 1 1, 3, 0, 1, 0), (128, .goto (-67), 3, 61, 0, 0), (131, .return_, 1, 0, 0, 0)]
/-- LastAsked$Fits.<init>()V -/
def xc_6 : List xCe := [(0, .aload_n 0, 1, 0, 0, 0), (1, .invokespecial 3, 3, 9000, 0, 0), (4, .aload_n 0, 1, 0, 0, 0), (5, .iconst 1, 1, 0, 1, 0), (6, .putfield 9, 3, 100, 0, 0), (9, .aload_n 0, 1, 0, 0, 0), (10, .iconst 3, 1, 0, 3, 0), (11, .newarray .int, 2, 11, 0, 0), (13, .putfield 15, 3, 101, 0, 0), (16, .aload_n 0, 1, 0, 0, 0), (17, .iconst 3, 1, 0, 3, 0), (18, .newarray .int, 2, 11, 0, 0), (20, .putfield 19, 3, 102, 0, 0), (23, .aload_n 0, 1, 0, 0, 0), (24, .iconst 3, 1, 0, 3, 0), (25, .newarray .int, 2, 11, 0, 0), (27, .putfield 22, 3, 103, 0, 0), (30, .aload_n 0, 1, 0, 0, 0), (31, .bipush 36, 2, 0, 36, 0), (33, .newarray .int, 2, 11, 0, 0), (35, .putfield 25, 3, 104, 0, 0), (38, .aload_n 0, 1, 0, 0, 0), (39, .bipush 21, 2, 0, 21, 0), (41, .newarray .int, 2, 11, 0, 0), (43, .putfield 28, 3, 105, 0, 0), (46, .return_, 1, 0, 0, 0)]
/-- LastAsked$Fits.open(LLastAsked$City;)V -/
def xc_7 : List xCe := [(0, .aload_n 0, 1, 0, 0, 0), (1, .iconst 1, 1, 0, 1, 0), (2, .putfield 9, 3, 100, 0, 0), (5, .aload_n 1, 1, 0, 0, 0), (6, .getfield 31, 3, 12, 0, 0), (9, .iconst 0, 1, 0, 0, 0), (10, .aload_n 0, 1, 0, 0, 0), (11, .getfield 25, 3, 104, 0, 0), (14, .iconst 0, 1, 0, 0, 0), (15, .bipush 36, 2, 0, 36, 0), (17, .invokestatic 34, 3, 9003, 0, 0), (20, .iconst 2, 1, 0, 2, 0), (21, .istore_n 2, 1, 0, 0, 0), (22, .iload_n 2, 1, 0, 0, 0), (23, .ifCond .lt 115, 3, 138, 0, 0), (26, .iload_n 2, 1, 0, 0, 0), (27, .aload_n 1, 1, 0, 0, 0), (28, .getfield 40, 3, 5, 0, 0), (31, .if_icmp .ge 7, 3, 38, 0, 0), (34, .iconst 1, 1, 0, 1, 0), (35, .goto 4, 3, 39, 0, 0), (38, .iconst 0, 1, 0, 0, 0), (39, .istore_n 3, 1, 0, 0, 0), (40, .aload_n 0, 1, 0, 0, 0), (41, .getfield 15, 3, 101, 0, 0), (44, .iload_n 2, 1, 0, 0, 0), (45, .iload_n 3, 1, 0, 0, 0), (46, .ifCond .eq 23, 3, 69, 0, 0), (49, .iconst 0, 1, 0, 0, 0), (50, .aload_n 1, 1, 0, 0, 0), (51, .getfield 43, 3, 15, 0, 0), (54, .iload_n 2, 1, 0, 0, 0), (55, .iaload, 1, 0, 0, 0), (56, .aload_n 1, 1, 0, 0, 0), (57, .getfield 46, 3, 16, 0, 0), (60, .iload_n 2, 1, 0, 0, 0), (61, .iaload, 1, 0, 0, 0), (62, .isub, 1, 0, 0, 0), (63, .invokestatic 49, 3, 9002, 0, 0), (66, .goto 4, 3, 70, 0, 0), (69, .iconst 0, 1, 0, 0, 0), (70, .iastore, 1, 0, 0, 0), (71, .aload_n 0, 1, 0, 0, 0), (72, .getfield 19, 3, 102, 0, 0), (75, .iload_n 2, 1, 0, 0, 0), (76, .iload_n 3, 1, 0, 0, 0), (77, .ifCond .eq 28, 3, 105, 0, 0), (80, .aload_n 1, 1, 0, 0, 0), (81, .getfield 43, 3, 15, 0, 0), (84, .iload_n 2, 1, 0, 0, 0), (85, .iaload, 1, 0, 0, 0), (86, .aload_n 1, 1, 0, 0, 0), (87, .getfield 46, 3, 16, 0, 0), (90, .iload_n 2, 1, 0, 0, 0), (91, .iaload, 1, 0, 0, 0), (92, .iadd, 1, 0, 0, 0), (93, .aload_n 0, 1, 0, 0, 0), (94, .getfield 15, 3, 101, 0, 0), (97, .iload_n 2, 1, 0, 0, 0), (98, .iaload, 1, 0, 0, 0), (99, .isub, 1, 0, 0, 0), (100, .iconst 1, 1, 0, 1, 0), (101, .iadd, 1, 0, 0, 0), (102, .goto 4, 3, 106, 0, 0), (105, .iconst 1, 1, 0, 1, 0), (106, .iastore, 1, 0, 0, 0), (107, .aload_n 0, 1, 0, 0, 0), (108, .getfield 22, 3, 103, 0, 0), (111, .iload_n 2, 1, 0, 0, 0), (112, .aload_n 0, 1, 0, 0, 0), (113, .getfield 9, 3, 100, 0, 0), (116, .iastore, 1, 0, 0, 0), (117, .aload_n 0, 1, 0, 0, 0), (118, .dup, 1, 0, 0, 0), (119, .getfield 9, 3, 100, 0, 0), (122, .aload_n 0, 1, 0, 0, 0), (123, .getfield 19, 3, 102, 0, 0), (126, .iload_n 2, 1, 0, 0, 0), (127, .iaload, 1, 0, 0, 0), (128, .imul, 1, 0, 0, 0), (129, .putfield 9, 3, 100, 0, 0), (132, .iinc 2 (-1), 3, 0, (-1), 0), (135, .goto (-113), 3, 22, 0, 0), (138, .return_, 1, 0, 0, 0)]
/-- LastAsked$Fits.hourBy(II)I -/
def xc_8 : List xCe := [(0, .iload_n 2, 1, 0, 0, 0), (1, .ifCond .lt 26, 3, 27, 0, 0), (4, .iload_n 2, 1, 0, 0, 0), (5, .iconst 3, 1, 0, 3, 0), (6, .if_icmp .ge 21, 3, 27, 0, 0), (9, .aload_n 0, 1, 0, 0, 0), (10, .getfield 22, 3, 103, 0, 0), (13, .iload_n 2, 1, 0, 0, 0), (14, .iaload, 1, 0, 0, 0), (15, .ifCond .le 12, 3, 27, 0, 0), (18, .aload_n 0, 1, 0, 0, 0), (19, .getfield 19, 3, 102, 0, 0), (22, .iload_n 2, 1, 0, 0, 0), (23, .iaload, 1, 0, 0, 0), (24, .ifCond .gt 5, 3, 29, 0, 0), (27, .iconst (-1), 1, 0, (-1), 0), (28, .ireturn, 1, 0, 0, 0), (29, .aload_n 0, 1, 0, 0, 0), (30, .getfield 15, 3, 101, 0, 0), (33, .iload_n 2, 1, 0, 0, 0), (34, .iaload, 1, 0, 0, 0), (35, .iload_n 1, 1, 0, 0, 0), (36, .aload_n 0, 1, 0, 0, 0), (37, .getfield 22, 3, 103, 0, 0), (40, .iload_n 2, 1, 0, 0, 0), (41, .iaload, 1, 0, 0, 0), (42, .idiv, 1, 0, 0, 0), (43, .aload_n 0, 1, 0, 0, 0), (44, .getfield 19, 3, 102, 0, 0), (47, .iload_n 2, 1, 0, 0, 0), (48, .iaload, 1, 0, 0, 0), (49, .irem, 1, 0, 0, 0), (50, .iadd, 1, 0, 0, 0), (51, .ireturn, 1, 0, 0, 0)]
/-- LastAsked$Fits.holds(LLastAsked$City;I)Z -/
def xc_9 : List xCe := [(0, .iconst 0, 1, 0, 0, 0), (1, .istore_n 3, 1, 0, 0, 0), (2, .iload_n 3, 1, 0, 0, 0), (3, .aload_n 1, 1, 0, 0, 0), (4, .getfield 40, 3, 5, 0, 0), (7, .if_icmp .ge 26, 3, 33, 0, 0), (10, .aload_n 0, 1, 0, 0, 0), (11, .getfield 25, 3, 104, 0, 0), (14, .aload_n 1, 1, 0, 0, 0), (15, .getfield 55, 3, 14, 0, 0), (18, .iload_n 3, 1, 0, 0, 0), (19, .iaload, 1, 0, 0, 0), (20, .aload_n 0, 1, 0, 0, 0), (21, .iload_n 2, 1, 0, 0, 0), (22, .iload_n 3, 1, 0, 0, 0), (23, .invokevirtual 58, 3, 8, 0, 0), (26, .iastore, 1, 0, 0, 0), (27, .iinc 3 1, 3, 0, 1, 0), (30, .goto (-28), 3, 2, 0, 0), (33, .iconst 0, 1, 0, 0, 0), (34, .istore_n 3, 1, 0, 0, 0), (35, .iload_n 3, 1, 0, 0, 0), (36, .bipush 6, 2, 0, 6, 0), (38, .if_icmp .ge 43, 3, 81, 0, 0), (41, .aload_n 1, 1, 0, 0, 0), (42, .getfield 61, 3, 11, 0, 0), (45, .iload_n 3, 1, 0, 0, 0), (46, .iaload, 1, 0, 0, 0), (47, .istore 4, 2, 0, 0, 0), (49, .iload 4, 2, 0, 0, 0), (51, .bipush (-3), 2, 0, (-3), 0), (53, .if_icmp .eq 22, 3, 75, 0, 0), (56, .iload 4, 2, 0, 0, 0), (58, .aload_n 0, 1, 0, 0, 0), (59, .getfield 25, 3, 104, 0, 0), (62, .aload_n 1, 1, 0, 0, 0), (63, .invokevirtual 64, 3, 3, 0, 0), (66, .iload_n 3, 1, 0, 0, 0), (67, .invokestatic 68, 3, 58, 0, 0), (70, .if_icmp .eq 5, 3, 75, 0, 0), (73, .iconst 0, 1, 0, 0, 0), (74, .ireturn, 1, 0, 0, 0), (75, .iinc 3 1, 3, 0, 1, 0), (78, .goto (-43), 3, 35, 0, 0), (81, .iconst 1, 1, 0, 1, 0), (82, .ireturn, 1, 0, 0, 0)]
/-- LastAsked$Fits.countAll(LLastAsked$City;)I -/
def xc_10 : List xCe := [(0, .aload_n 0, 1, 0, 0, 0), (1, .aload_n 1, 1, 0, 0, 0), (2, .invokevirtual 74, 3, 7, 0, 0), (5, .iconst 0, 1, 0, 0, 0), (6, .istore_n 2, 1, 0, 0, 0), (7, .iconst 0, 1, 0, 0, 0), (8, .istore_n 3, 1, 0, 0, 0), (9, .iload_n 3, 1, 0, 0, 0), (10, .aload_n 0, 1, 0, 0, 0), (11, .getfield 9, 3, 100, 0, 0), (14, .if_icmp .ge 21, 3, 35, 0, 0), (17, .aload_n 0, 1, 0, 0, 0), (18, .aload_n 1, 1, 0, 0, 0), (19, .iload_n 3, 1, 0, 0, 0), (20, .invokevirtual 78, 3, 9, 0, 0), (23, .ifCond .eq 6, 3, 29, 0, 0), (26, .iinc 2 1, 3, 0, 1, 0), (29, .iinc 3 1, 3, 0, 1, 0), (32, .goto (-23), 3, 9, 0, 0), (35, .iload_n 2, 1, 0, 0, 0), (36, .ireturn, 1, 0, 0, 0)]
/-- LastAsked$Fits.find(LLastAsked$City;I)I -/
def xc_11 : List xCe := [(0, .aload_n 0, 1, 0, 0, 0), (1, .aload_n 1, 1, 0, 0, 0), (2, .invokevirtual 74, 3, 7, 0, 0), (5, .iload_n 2, 1, 0, 0, 0), (6, .istore_n 3, 1, 0, 0, 0), (7, .iconst 0, 1, 0, 0, 0), (8, .istore 4, 2, 0, 0, 0), (10, .iload 4, 2, 0, 0, 0), (12, .aload_n 0, 1, 0, 0, 0), (13, .getfield 9, 3, 100, 0, 0), (16, .if_icmp .ge 29, 3, 45, 0, 0), (19, .aload_n 0, 1, 0, 0, 0), (20, .aload_n 1, 1, 0, 0, 0), (21, .iload 4, 2, 0, 0, 0), (23, .invokevirtual 78, 3, 9, 0, 0), (26, .ifCond .eq 13, 3, 39, 0, 0), (29, .iload_n 3, 1, 0, 0, 0), (30, .ifCond .ne 6, 3, 36, 0, 0), (33, .iload 4, 2, 0, 0, 0), (35, .ireturn, 1, 0, 0, 0), (36, .iinc 3 (-1), 3, 0, (-1), 0), (39, .iinc 4 1, 3, 0, 1, 0), (42, .goto (-32), 3, 10, 0, 0), (45, .iconst (-1), 1, 0, (-1), 0), (46, .ireturn, 1, 0, 0, 0)]
/-- LastAsked$Fits.countHeir(LLastAsked$City;II)I -/
def xc_12 : List xCe := [(0, .aload_n 0, 1, 0, 0, 0), (1, .aload_n 1, 1, 0, 0, 0), (2, .invokevirtual 74, 3, 7, 0, 0), (5, .iconst 0, 1, 0, 0, 0), (6, .istore 4, 2, 0, 0, 0), (8, .iconst 0, 1, 0, 0, 0), (9, .istore 5, 2, 0, 0, 0), (11, .iload 5, 2, 0, 0, 0), (13, .aload_n 0, 1, 0, 0, 0), (14, .getfield 9, 3, 100, 0, 0), (17, .if_icmp .ge 38, 3, 55, 0, 0), (20, .aload_n 0, 1, 0, 0, 0), (21, .aload_n 1, 1, 0, 0, 0), (22, .iload 5, 2, 0, 0, 0), (24, .invokevirtual 78, 3, 9, 0, 0), (27, .ifCond .eq 22, 3, 49, 0, 0), (30, .aload_n 0, 1, 0, 0, 0), (31, .getfield 25, 3, 104, 0, 0), (34, .aload_n 1, 1, 0, 0, 0), (35, .invokevirtual 64, 3, 3, 0, 0), (38, .iload_n 3, 1, 0, 0, 0), (39, .invokestatic 68, 3, 58, 0, 0), (42, .iload_n 2, 1, 0, 0, 0), (43, .if_icmp .ne 6, 3, 49, 0, 0), (46, .iinc 4 1, 3, 0, 1, 0), (49, .iinc 5 1, 3, 0, 1, 0), (52, .goto (-41), 3, 11, 0, 0), (55, .iload 4, 2, 0, 0, 0), (57, .ireturn, 1, 0, 0, 0)]
/-- LastAsked$Fits.whichToLookAt(LLastAsked$City;)I -/
def xc_13 : List xCe := [(0, .aload_n 0, 1, 0, 0, 0), (1, .aload_n 1, 1, 0, 0, 0), (2, .invokevirtual 74, 3, 7, 0, 0), (5, .aload_n 0, 1, 0, 0, 0), (6, .aload_n 1, 1, 0, 0, 0), (7, .invokevirtual 82, 3, 14, 0, 0), (10, .ifCond .ne 6, 3, 16, 0, 0), (13, .bipush (-2), 2, 0, (-2), 0), (15, .ireturn, 1, 0, 0, 0), (16, .bipush (-2), 2, 0, (-2), 0), (18, .istore_n 2, 1, 0, 0, 0), (19, .aload_n 0, 1, 0, 0, 0), (20, .getfield 9, 3, 100, 0, 0), (23, .iconst 1, 1, 0, 1, 0), (24, .iadd, 1, 0, 0, 0), (25, .istore_n 3, 1, 0, 0, 0), (26, .iconst 0, 1, 0, 0, 0), (27, .istore 4, 2, 0, 0, 0), (29, .iload 4, 2, 0, 0, 0), (31, .aload_n 1, 1, 0, 0, 0), (32, .getfield 40, 3, 5, 0, 0), (35, .if_icmp .ge 29, 3, 64, 0, 0), (38, .aload_n 0, 1, 0, 0, 0), (39, .iload 4, 2, 0, 0, 0), (41, .invokevirtual 86, 3, 15, 0, 0), (44, .istore 5, 2, 0, 0, 0), (46, .iload 5, 2, 0, 0, 0), (48, .iload_n 3, 1, 0, 0, 0), (49, .if_icmp .ge 9, 3, 58, 0, 0), (52, .iload 4, 2, 0, 0, 0), (54, .istore_n 2, 1, 0, 0, 0), (55, .iload 5, 2, 0, 0, 0), (57, .istore_n 3, 1, 0, 0, 0), (58, .iinc 4 1, 3, 0, 1, 0), (61, .goto (-32), 3, 29, 0, 0), (64, .iload_n 2, 1, 0, 0, 0), (65, .ireturn, 1, 0, 0, 0)]
/-- LastAsked$Fits.countByHours(LLastAsked$City;)I -/
def xc_14 : List xCe := [(0, .iconst 0, 1, 0, 0, 0), (1, .istore_n 2, 1, 0, 0, 0), (2, .iconst 0, 1, 0, 0, 0), (3, .istore_n 3, 1, 0, 0, 0), (4, .iload_n 3, 1, 0, 0, 0), (5, .bipush 21, 2, 0, 21, 0), (7, .if_icmp .ge 16, 3, 23, 0, 0), (10, .aload_n 0, 1, 0, 0, 0), (11, .getfield 28, 3, 105, 0, 0), (14, .iload_n 3, 1, 0, 0, 0), (15, .iconst 0, 1, 0, 0, 0), (16, .iastore, 1, 0, 0, 0), (17, .iinc 3 1, 3, 0, 1, 0), (20, .goto (-16), 3, 4, 0, 0), (23, .iconst 0, 1, 0, 0, 0), (24, .istore_n 3, 1, 0, 0, 0), (25, .iload_n 3, 1, 0, 0, 0), (26, .aload_n 0, 1, 0, 0, 0), (27, .getfield 9, 3, 100, 0, 0), (30, .if_icmp .ge 69, 3, 99, 0, 0), (33, .aload_n 0, 1, 0, 0, 0), (34, .aload_n 1, 1, 0, 0, 0), (35, .iload_n 3, 1, 0, 0, 0), (36, .invokevirtual 78, 3, 9, 0, 0), (39, .ifCond .eq 54, 3, 93, 0, 0), (42, .iinc 2 1, 3, 0, 1, 0), (45, .iconst 0, 1, 0, 0, 0), (46, .istore 4, 2, 0, 0, 0), (48, .iload 4, 2, 0, 0, 0), (50, .aload_n 1, 1, 0, 0, 0), (51, .getfield 40, 3, 5, 0, 0), (54, .if_icmp .ge 39, 3, 93, 0, 0), (57, .aload_n 0, 1, 0, 0, 0), (58, .getfield 28, 3, 105, 0, 0), (61, .iload 4, 2, 0, 0, 0), (63, .bipush 7, 2, 0, 7, 0), (65, .imul, 1, 0, 0, 0), (66, .aload_n 0, 1, 0, 0, 0), (67, .iload_n 3, 1, 0, 0, 0), (68, .iload 4, 2, 0, 0, 0), (70, .invokevirtual 58, 3, 8, 0, 0), (73, .iadd, 1, 0, 0, 0), (74, .aload_n 0, 1, 0, 0, 0), (75, .getfield 15, 3, 101, 0, 0), (78, .iload 4, 2, 0, 0, 0), (80, .iaload, 1, 0, 0, 0), (81, .isub, 1, 0, 0, 0), (82, .dup2, 1, 0, 0, 0), (83, .iaload, 1, 0, 0, 0), (84, .iconst 1, 1, 0, 1, 0), (85, .iadd, 1, 0, 0, 0), (86, .iastore, 1, 0, 0, 0), (87, .iinc 4 1, 3, 0, 1, 0), (90, .goto (-42), 3, 48, 0, 0), (93, .iinc 3 1, 3, 0, 1, 0), (96, .goto (-71), 3, 25, 0, 0), (99, .iload_n 2, 1, 0, 0, 0), (100, .ireturn, 1, 0, 0, 0)]
/-- LastAsked$Fits.leftAtMost(I)I -/
def xc_15 : List xCe := [(0, .iconst 0, 1, 0, 0, 0), (1, .istore_n 2, 1, 0, 0, 0), (2, .iconst 0, 1, 0, 0, 0), (3, .istore_n 3, 1, 0, 0, 0), (4, .iload_n 3, 1, 0, 0, 0), (5, .bipush 7, 2, 0, 7, 0), (7, .if_icmp .ge 25, 3, 32, 0, 0), (10, .iload_n 2, 1, 0, 0, 0), (11, .aload_n 0, 1, 0, 0, 0), (12, .getfield 28, 3, 105, 0, 0), (15, .iload_n 1, 1, 0, 0, 0), (16, .bipush 7, 2, 0, 7, 0), (18, .imul, 1, 0, 0, 0), (19, .iload_n 3, 1, 0, 0, 0), (20, .iadd, 1, 0, 0, 0), (21, .iaload, 1, 0, 0, 0), (22, .invokestatic 49, 3, 9002, 0, 0), (25, .istore_n 2, 1, 0, 0, 0), (26, .iinc 3 1, 3, 0, 1, 0), (29, .goto (-25), 3, 4, 0, 0), (32, .iload_n 2, 1, 0, 0, 0), (33, .ireturn, 1, 0, 0, 0)]
/-- LastAsked$Past.<init>()V -/
def xc_16 : List xCe := [(0, .aload_n 0, 1, 0, 0, 0), (1, .invokespecial 3, 3, 9000, 0, 0), (4, .aload_n 0, 1, 0, 0, 0), (5, .iconst 0, 1, 0, 0, 0), (6, .putfield 9, 3, 200, 0, 0), (9, .aload_n 0, 1, 0, 0, 0), (10, .iconst 0, 1, 0, 0, 0), (11, .putfield 15, 3, 201, 0, 0), (14, .aload_n 0, 1, 0, 0, 0), (15, .iconst 0, 1, 0, 0, 0), (16, .putfield 18, 3, 202, 0, 0), (19, .aload_n 0, 1, 0, 0, 0), (20, .bipush 16, 2, 0, 16, 0), (22, .anewarray 21, 3, 13, 0, 0), (25, .putfield 23, 3, 203, 0, 0), (28, .aload_n 0, 1, 0, 0, 0), (29, .iconst 3, 1, 0, 3, 0), (30, .anewarray 21, 3, 13, 0, 0), (33, .putfield 27, 3, 204, 0, 0), (36, .iconst 0, 1, 0, 0, 0), (37, .istore_n 1, 1, 0, 0, 0), (38, .iload_n 1, 1, 0, 0, 0), (39, .bipush 16, 2, 0, 16, 0), (41, .if_icmp .ge 22, 3, 63, 0, 0), (44, .aload_n 0, 1, 0, 0, 0), (45, .getfield 23, 3, 203, 0, 0), (48, .iload_n 1, 1, 0, 0, 0), (49, .new 21, 3, 4, 0, 0), (52, .dup, 1, 0, 0, 0), (53, .invokespecial 30, 3, 45, 0, 0), (56, .aastore, 1, 0, 0, 0), (57, .iinc 1 1, 3, 0, 1, 0), (60, .goto (-22), 3, 38, 0, 0), (63, .iconst 0, 1, 0, 0, 0), (64, .istore_n 1, 1, 0, 0, 0), (65, .iload_n 1, 1, 0, 0, 0), (66, .iconst 3, 1, 0, 3, 0), (67, .if_icmp .ge 22, 3, 89, 0, 0), (70, .aload_n 0, 1, 0, 0, 0), (71, .getfield 27, 3, 204, 0, 0), (74, .iload_n 1, 1, 0, 0, 0), (75, .new 21, 3, 4, 0, 0), (78, .dup, 1, 0, 0, 0), (79, .invokespecial 30, 3, 45, 0, 0), (82, .aastore, 1, 0, 0, 0), (83, .iinc 1 1, 3, 0, 1, 0), (86, .goto (-21), 3, 65, 0, 0), (89, .return_, 1, 0, 0, 0)]
/-- LastAsked$Past.forget()V -/
def xc_17 : List xCe := [(0, .aload_n 0, 1, 0, 0, 0), (1, .iconst 0, 1, 0, 0, 0), (2, .putfield 9, 3, 200, 0, 0), (5, .aload_n 0, 1, 0, 0, 0), (6, .iconst 0, 1, 0, 0, 0), (7, .putfield 15, 3, 201, 0, 0), (10, .return_, 1, 0, 0, 0)]
/-- LastAsked$Past.keep(LLastAsked$State;)V -/
def xc_18 : List xCe := [(0, .aload_n 0, 1, 0, 0, 0), (1, .getfield 23, 3, 203, 0, 0), (4, .aload_n 0, 1, 0, 0, 0), (5, .getfield 18, 3, 202, 0, 0), (8, .aaload, 1, 0, 0, 0), (9, .aload_n 1, 1, 0, 0, 0), (10, .invokevirtual 31, 3, 47, 0, 0), (13, .aload_n 0, 1, 0, 0, 0), (14, .aload_n 0, 1, 0, 0, 0), (15, .getfield 18, 3, 202, 0, 0), (18, .iconst 1, 1, 0, 1, 0), (19, .iadd, 1, 0, 0, 0), (20, .bipush 16, 2, 0, 16, 0), (22, .irem, 1, 0, 0, 0), (23, .putfield 18, 3, 202, 0, 0), (26, .aload_n 0, 1, 0, 0, 0), (27, .bipush 16, 2, 0, 16, 0), (29, .aload_n 0, 1, 0, 0, 0), (30, .getfield 9, 3, 200, 0, 0), (33, .iconst 1, 1, 0, 1, 0), (34, .iadd, 1, 0, 0, 0), (35, .invokestatic 35, 3, 9001, 0, 0), (38, .putfield 9, 3, 200, 0, 0), (41, .return_, 1, 0, 0, 0)]
/-- LastAsked$Past.takeBack(LLastAsked$State;)Z -/
def xc_19 : List xCe := [(0, .aload_n 0, 1, 0, 0, 0), (1, .getfield 9, 3, 200, 0, 0), (4, .ifCond .ne 5, 3, 9, 0, 0), (7, .iconst 0, 1, 0, 0, 0), (8, .ireturn, 1, 0, 0, 0), (9, .aload_n 0, 1, 0, 0, 0), (10, .dup, 1, 0, 0, 0), (11, .getfield 9, 3, 200, 0, 0), (14, .iconst 1, 1, 0, 1, 0), (15, .isub, 1, 0, 0, 0), (16, .putfield 9, 3, 200, 0, 0), (19, .aload_n 0, 1, 0, 0, 0), (20, .aload_n 0, 1, 0, 0, 0), (21, .getfield 18, 3, 202, 0, 0), (24, .bipush 16, 2, 0, 16, 0), (26, .iadd, 1, 0, 0, 0), (27, .iconst 1, 1, 0, 1, 0), (28, .isub, 1, 0, 0, 0), (29, .bipush 16, 2, 0, 16, 0), (31, .irem, 1, 0, 0, 0), (32, .putfield 18, 3, 202, 0, 0), (35, .aload_n 1, 1, 0, 0, 0), (36, .aload_n 0, 1, 0, 0, 0), (37, .getfield 23, 3, 203, 0, 0), (40, .aload_n 0, 1, 0, 0, 0), (41, .getfield 18, 3, 202, 0, 0), (44, .aaload, 1, 0, 0, 0), (45, .invokevirtual 31, 3, 47, 0, 0), (48, .iconst 1, 1, 0, 1, 0), (49, .ireturn, 1, 0, 0, 0)]
/-- LastAsked$Past.addImage(LLastAsked$State;)I -/
def xc_20 : List xCe := [(0, .aload_n 0, 1, 0, 0, 0), (1, .getfield 15, 3, 201, 0, 0), (4, .iconst 3, 1, 0, 3, 0), (5, .if_icmp .lt 5, 3, 10, 0, 0), (8, .iconst (-1), 1, 0, (-1), 0), (9, .ireturn, 1, 0, 0, 0), (10, .aload_n 0, 1, 0, 0, 0), (11, .getfield 27, 3, 204, 0, 0), (14, .aload_n 0, 1, 0, 0, 0), (15, .getfield 15, 3, 201, 0, 0), (18, .aaload, 1, 0, 0, 0), (19, .aload_n 1, 1, 0, 0, 0), (20, .invokevirtual 31, 3, 47, 0, 0), (23, .aload_n 0, 1, 0, 0, 0), (24, .dup, 1, 0, 0, 0), (25, .getfield 15, 3, 201, 0, 0), (28, .iconst 1, 1, 0, 1, 0), (29, .iadd, 1, 0, 0, 0), (30, .putfield 15, 3, 201, 0, 0), (33, .aload_n 0, 1, 0, 0, 0), (34, .getfield 15, 3, 201, 0, 0), (37, .iconst 1, 1, 0, 1, 0), (38, .isub, 1, 0, 0, 0), (39, .ireturn, 1, 0, 0, 0)]
/-- LastAsked$Past.showImage(ILLastAsked$State;)Z -/
def xc_21 : List xCe := [(0, .iload_n 1, 1, 0, 0, 0), (1, .ifCond .lt 11, 3, 12, 0, 0), (4, .iload_n 1, 1, 0, 0, 0), (5, .aload_n 0, 1, 0, 0, 0), (6, .getfield 15, 3, 201, 0, 0), (9, .if_icmp .lt 5, 3, 14, 0, 0), (12, .iconst 0, 1, 0, 0, 0), (13, .ireturn, 1, 0, 0, 0), (14, .aload_n 2, 1, 0, 0, 0), (15, .aload_n 0, 1, 0, 0, 0), (16, .getfield 27, 3, 204, 0, 0), (19, .iload_n 1, 1, 0, 0, 0), (20, .aaload, 1, 0, 0, 0), (21, .invokevirtual 31, 3, 47, 0, 0), (24, .aload_n 0, 1, 0, 0, 0), (25, .iconst 0, 1, 0, 0, 0), (26, .putfield 9, 3, 200, 0, 0), (29, .iconst 1, 1, 0, 1, 0), (30, .ireturn, 1, 0, 0, 0)]
/-- LastAsked$Reader.<init>()V -/
def xc_22 : List xCe := [(0, .aload_n 0, 1, 0, 0, 0), (1, .invokespecial 3, 3, 9000, 0, 0), (4, .aload_n 0, 1, 0, 0, 0), (5, .iconst 0, 1, 0, 0, 0), (6, .putfield 9, 3, 300, 0, 0), (9, .aload_n 0, 1, 0, 0, 0), (10, .iconst 0, 1, 0, 0, 0), (11, .putfield 15, 3, 301, 0, 0), (14, .aload_n 0, 1, 0, 0, 0), (15, .new 18, 3, 0, 0, 0), (18, .dup, 1, 0, 0, 0), (19, .invokespecial 20, 3, 0, 0, 0), (22, .putfield 21, 3, 302, 0, 0), (25, .aload_n 0, 1, 0, 0, 0), (26, .iconst 0, 1, 0, 0, 0), (27, .putfield 25, 3, 303, 0, 0), (30, .aload_n 0, 1, 0, 0, 0), (31, .sipush 900, 3, 0, 900, 0), (34, .newarray .byte, 2, 10, 0, 0), (36, .putfield 28, 3, 304, 0, 0), (39, .aload_n 0, 1, 0, 0, 0), (40, .iconst 0, 1, 0, 0, 0), (41, .putfield 32, 3, 305, 0, 0), (44, .aload_n 0, 1, 0, 0, 0), (45, .iconst 0, 1, 0, 0, 0), (46, .putfield 35, 3, 306, 0, 0), (49, .aload_n 0, 1, 0, 0, 0), (50, .iconst 0, 1, 0, 0, 0), (51, .putfield 38, 3, 307, 0, 0), (54, .aload_n 0, 1, 0, 0, 0), (55, .iconst 0, 1, 0, 0, 0), (56, .putfield 41, 3, 308, 0, 0), (59, .aload_n 0, 1, 0, 0, 0), (60, .iconst 0, 1, 0, 0, 0), (61, .putfield 44, 3, 309, 0, 0), (64, .aload_n 0, 1, 0, 0, 0), (65, .lconst 0, 1, 0, 0, 0), (66, .putfield 47, 3, 310, 0, 0), (69, .aload_n 0, 1, 0, 0, 0), (70, .iconst 0, 1, 0, 0, 0), (71, .putfield 51, 3, 311, 0, 0), (74, .aload_n 0, 1, 0, 0, 0), (75, .bipush 6, 2, 0, 6, 0), (77, .newarray .long, 2, 12, 0, 0), (79, .putfield 55, 3, 312, 0, 0), (82, .return_, 1, 0, 0, 0)]
/-- LastAsked$Reader.append(I)V -/
def xc_23 : List xCe := [(0, .bipush 24, 2, 0, 24, 0), (2, .istore_n 2, 1, 0, 0, 0), (3, .iload_n 2, 1, 0, 0, 0), (4, .ifCond .lt 42, 3, 46, 0, 0), (7, .aload_n 0, 1, 0, 0, 0), (8, .getfield 9, 3, 300, 0, 0), (11, .sipush 900, 3, 0, 900, 0), (14, .if_icmp .ge 32, 3, 46, 0, 0), (17, .aload_n 0, 1, 0, 0, 0), (18, .getfield 28, 3, 304, 0, 0), (21, .aload_n 0, 1, 0, 0, 0), (22, .getfield 9, 3, 300, 0, 0), (25, .iload_n 1, 1, 0, 0, 0), (26, .iload_n 2, 1, 0, 0, 0), (27, .ishr, 1, 0, 0, 0), (28, .i2b, 1, 0, 0, 0), (29, .bastore, 1, 0, 0, 0), (30, .aload_n 0, 1, 0, 0, 0), (31, .dup, 1, 0, 0, 0), (32, .getfield 9, 3, 300, 0, 0), (35, .iconst 1, 1, 0, 1, 0), (36, .iadd, 1, 0, 0, 0), (37, .putfield 9, 3, 300, 0, 0), (40, .iinc 2 (-8), 3, 0, (-8), 0), (43, .goto (-40), 3, 3, 0, 0), (46, .return_, 1, 0, 0, 0)]
/-- LastAsked$Reader.readCity(I)I -/
def xc_24 : List xCe := [(0, .aload_n 0, 1, 0, 0, 0), (1, .iload_n 1, 1, 0, 0, 0), (2, .aload_n 0, 1, 0, 0, 0), (3, .getfield 9, 3, 300, 0, 0), (6, .invokestatic 59, 3, 9001, 0, 0), (9, .putfield 32, 3, 305, 0, 0), (12, .aload_n 0, 1, 0, 0, 0), (13, .iconst 0, 1, 0, 0, 0), (14, .putfield 9, 3, 300, 0, 0), (17, .aload_n 0, 1, 0, 0, 0), (18, .getfield 21, 3, 302, 0, 0), (21, .invokevirtual 65, 3, 1, 0, 0), (24, .aload_n 0, 1, 0, 0, 0), (25, .iconst 0, 1, 0, 0, 0), (26, .putfield 41, 3, 308, 0, 0), (29, .aload_n 0, 1, 0, 0, 0), (30, .iconst 0, 1, 0, 0, 0), (31, .putfield 25, 3, 303, 0, 0), (34, .aload_n 0, 1, 0, 0, 0), (35, .iconst 0, 1, 0, 0, 0), (36, .putfield 15, 3, 301, 0, 0), (39, .aload_n 0, 1, 0, 0, 0), (40, .iconst 0, 1, 0, 0, 0), (41, .putfield 51, 3, 311, 0, 0), (44, .iconst 1, 1, 0, 1, 0), (45, .istore_n 2, 1, 0, 0, 0), (46, .iconst 0, 1, 0, 0, 0), (47, .istore_n 3, 1, 0, 0, 0), (48, .iload_n 3, 1, 0, 0, 0), (49, .sipush 900, 3, 0, 900, 0), (52, .if_icmp .ge 34, 3, 86, 0, 0), (55, .iload_n 2, 1, 0, 0, 0), (56, .ifCond .eq 30, 3, 86, 0, 0), (59, .aload_n 0, 1, 0, 0, 0), (60, .invokevirtual 68, 3, 36, 0, 0), (63, .ifCond .eq 15, 3, 78, 0, 0), (66, .aload_n 0, 1, 0, 0, 0), (67, .invokevirtual 72, 3, 26, 0, 0), (70, .iconst 3, 1, 0, 3, 0), (71, .if_icmp .ne 7, 3, 78, 0, 0), (74, .iconst 1, 1, 0, 1, 0), (75, .goto 4, 3, 79, 0, 0), (78, .iconst 0, 1, 0, 0, 0), (79, .istore_n 2, 1, 0, 0, 0), (80, .iinc 3 1, 3, 0, 1, 0), (83, .goto (-35), 3, 48, 0, 0), (86, .aload_n 0, 1, 0, 0, 0), (87, .getfield 25, 3, 303, 0, 0), (90, .ifCond .ne 16, 3, 106, 0, 0), (93, .aload_n 0, 1, 0, 0, 0), (94, .getfield 35, 3, 306, 0, 0), (97, .ifCond .eq 9, 3, 106, 0, 0), (100, .aload_n 0, 1, 0, 0, 0), (101, .iconst 1, 1, 0, 1, 0), (102, .invokevirtual 76, 3, 25, 0, 0), (105, .pop, 1, 0, 0, 0), (106, .aload_n 0, 1, 0, 0, 0), (107, .getfield 25, 3, 303, 0, 0), (110, .ifCond .ne 20, 3, 130, 0, 0), (113, .aload_n 0, 1, 0, 0, 0), (114, .getfield 21, 3, 302, 0, 0), (117, .getfield 80, 3, 2, 0, 0), (120, .ifCond .ne 10, 3, 130, 0, 0), (123, .aload_n 0, 1, 0, 0, 0), (124, .bipush 6, 2, 0, 6, 0), (126, .invokevirtual 76, 3, 25, 0, 0), (129, .pop, 1, 0, 0, 0), (130, .aload_n 0, 1, 0, 0, 0), (131, .getfield 21, 3, 302, 0, 0), (134, .invokevirtual 83, 3, 5, 0, 0), (137, .aload_n 0, 1, 0, 0, 0), (138, .getfield 25, 3, 303, 0, 0), (141, .ireturn, 1, 0, 0, 0)]
/-- LastAsked$Reader.spoil(I)Z -/
def xc_25 : List xCe := [(0, .aload_n 0, 1, 0, 0, 0), (1, .iload_n 1, 1, 0, 0, 0), (2, .putfield 25, 3, 303, 0, 0), (5, .aload_n 0, 1, 0, 0, 0), (6, .aload_n 0, 1, 0, 0, 0), (7, .getfield 38, 3, 307, 0, 0), (10, .putfield 15, 3, 301, 0, 0), (13, .iconst 0, 1, 0, 0, 0), (14, .ireturn, 1, 0, 0, 0)]
/-- LastAsked$Reader.step()I -/
def xc_26 : List xCe := [(0, .aload_n 0, 1, 0, 0, 0), (1, .aload_n 0, 1, 0, 0, 0), (2, .getfield 41, 3, 308, 0, 0), (5, .putfield 38, 3, 307, 0, 0), (8, .aload_n 0, 1, 0, 0, 0), (9, .getfield 38, 3, 307, 0, 0), (12, .aload_n 0, 1, 0, 0, 0), (13, .getfield 32, 3, 305, 0, 0), (16, .if_icmp .ge 30, 3, 46, 0, 0), (19, .aload_n 0, 1, 0, 0, 0), (20, .getfield 28, 3, 304, 0, 0), (23, .aload_n 0, 1, 0, 0, 0), (24, .getfield 38, 3, 307, 0, 0), (27, .baload, 1, 0, 0, 0), (28, .bipush 32, 2, 0, 32, 0), (30, .if_icmp .ne 16, 3, 46, 0, 0), (33, .aload_n 0, 1, 0, 0, 0), (34, .dup, 1, 0, 0, 0), (35, .getfield 38, 3, 307, 0, 0), (38, .iconst 1, 1, 0, 1, 0), (39, .iadd, 1, 0, 0, 0), (40, .putfield 38, 3, 307, 0, 0), (43, .goto (-35), 3, 8, 0, 0), (46, .aload_n 0, 1, 0, 0, 0), (47, .aload_n 0, 1, 0, 0, 0), (48, .getfield 38, 3, 307, 0, 0), (51, .putfield 41, 3, 308, 0, 0), (54, .aload_n 0, 1, 0, 0, 0), (55, .getfield 38, 3, 307, 0, 0), (58, .aload_n 0, 1, 0, 0, 0), (59, .getfield 32, 3, 305, 0, 0), (62, .if_icmp .lt 11, 3, 73, 0, 0), (65, .aload_n 0, 1, 0, 0, 0), (66, .iconst 0, 1, 0, 0, 0), (67, .putfield 35, 3, 306, 0, 0), (70, .goto 54, 3, 124, 0, 0), (73, .aload_n 0, 1, 0, 0, 0), (74, .getfield 28, 3, 304, 0, 0), (77, .aload_n 0, 1, 0, 0, 0), (78, .getfield 38, 3, 307, 0, 0), (81, .baload, 1, 0, 0, 0), (82, .bipush 59, 2, 0, 59, 0), (84, .if_icmp .ne 21, 3, 105, 0, 0), (87, .aload_n 0, 1, 0, 0, 0), (88, .dup, 1, 0, 0, 0), (89, .getfield 41, 3, 308, 0, 0), (92, .iconst 1, 1, 0, 1, 0), (93, .iadd, 1, 0, 0, 0), (94, .putfield 41, 3, 308, 0, 0), (97, .aload_n 0, 1, 0, 0, 0), (98, .iconst 3, 1, 0, 3, 0), (99, .putfield 35, 3, 306, 0, 0), (102, .goto 22, 3, 124, 0, 0), (105, .aload_n 0, 1, 0, 0, 0), (106, .invokevirtual 86, 3, 27, 0, 0), (109, .aload_n 0, 1, 0, 0, 0), (110, .getfield 41, 3, 308, 0, 0), (113, .aload_n 0, 1, 0, 0, 0), (114, .getfield 38, 3, 307, 0, 0), (117, .if_icmp .ne 7, 3, 124, 0, 0), (120, .aload_n 0, 1, 0, 0, 0), (121, .invokevirtual 89, 3, 28, 0, 0), (124, .aload_n 0, 1, 0, 0, 0), (125, .getfield 35, 3, 306, 0, 0), (128, .ireturn, 1, 0, 0, 0)]
/-- LastAsked$Reader.stepWord()V -/
def xc_27 : List xCe := [(0, .aload_n 0, 1, 0, 0, 0), (1, .lconst 0, 1, 0, 0, 0), (2, .putfield 47, 3, 310, 0, 0), (5, .aload_n 0, 1, 0, 0, 0), (6, .getfield 41, 3, 308, 0, 0), (9, .aload_n 0, 1, 0, 0, 0), (10, .getfield 32, 3, 305, 0, 0), (13, .if_icmp .ge 66, 3, 79, 0, 0), (16, .aload_n 0, 1, 0, 0, 0), (17, .getfield 28, 3, 304, 0, 0), (20, .aload_n 0, 1, 0, 0, 0), (21, .getfield 41, 3, 308, 0, 0), (24, .baload, 1, 0, 0, 0), (25, .bipush 97, 2, 0, 97, 0), (27, .if_icmp .lt 52, 3, 79, 0, 0), (30, .aload_n 0, 1, 0, 0, 0), (31, .getfield 28, 3, 304, 0, 0), (34, .aload_n 0, 1, 0, 0, 0), (35, .getfield 41, 3, 308, 0, 0), (38, .baload, 1, 0, 0, 0), (39, .bipush 122, 2, 0, 122, 0), (41, .if_icmp .gt 38, 3, 79, 0, 0), (44, .aload_n 0, 1, 0, 0, 0), (45, .aload_n 0, 1, 0, 0, 0), (46, .getfield 47, 3, 310, 0, 0), (49, .bipush 8, 2, 0, 8, 0), (51, .lshl, 1, 0, 0, 0), (52, .aload_n 0, 1, 0, 0, 0), (53, .getfield 28, 3, 304, 0, 0), (56, .aload_n 0, 1, 0, 0, 0), (57, .getfield 41, 3, 308, 0, 0), (60, .baload, 1, 0, 0, 0), (61, .i2l, 1, 0, 0, 0), (62, .lor, 1, 0, 0, 0), (63, .putfield 47, 3, 310, 0, 0), (66, .aload_n 0, 1, 0, 0, 0), (67, .dup, 1, 0, 0, 0), (68, .getfield 41, 3, 308, 0, 0), (71, .iconst 1, 1, 0, 1, 0), (72, .iadd, 1, 0, 0, 0), (73, .putfield 41, 3, 308, 0, 0), (76, .goto (-71), 3, 5, 0, 0), (79, .aload_n 0, 1, 0, 0, 0), (80, .aload_n 0, 1, 0, 0, 0), (81, .getfield 41, 3, 308, 0, 0), (84, .aload_n 0, 1, 0, 0, 0), (85, .getfield 38, 3, 307, 0, 0), (88, .isub, 1, 0, 0, 0), (89, .bipush 8, 2, 0, 8, 0), (91, .if_icmp .gt 7, 3, 98, 0, 0), (94, .iconst 1, 1, 0, 1, 0), (95, .goto 4, 3, 99, 0, 0), (98, .iconst 4, 1, 0, 4, 0), (99, .putfield 35, 3, 306, 0, 0), (102, .return_, 1, 0, 0, 0)]
/-- LastAsked$Reader.stepWhole()V -/
def xc_28 : List xCe := [(0, .aload_n 0, 1, 0, 0, 0), (1, .iconst 0, 1, 0, 0, 0), (2, .putfield 44, 3, 309, 0, 0), (5, .aload_n 0, 1, 0, 0, 0), (6, .getfield 41, 3, 308, 0, 0), (9, .aload_n 0, 1, 0, 0, 0), (10, .getfield 32, 3, 305, 0, 0), (13, .if_icmp .ge 68, 3, 81, 0, 0), (16, .aload_n 0, 1, 0, 0, 0), (17, .getfield 28, 3, 304, 0, 0), (20, .aload_n 0, 1, 0, 0, 0), (21, .getfield 41, 3, 308, 0, 0), (24, .baload, 1, 0, 0, 0), (25, .bipush 48, 2, 0, 48, 0), (27, .if_icmp .lt 54, 3, 81, 0, 0), (30, .aload_n 0, 1, 0, 0, 0), (31, .getfield 28, 3, 304, 0, 0), (34, .aload_n 0, 1, 0, 0, 0), (35, .getfield 41, 3, 308, 0, 0), (38, .baload, 1, 0, 0, 0), (39, .bipush 57, 2, 0, 57, 0), (41, .if_icmp .gt 40, 3, 81, 0, 0), (44, .aload_n 0, 1, 0, 0, 0), (45, .aload_n 0, 1, 0, 0, 0), (46, .getfield 44, 3, 309, 0, 0), (49, .bipush 10, 2, 0, 10, 0), (51, .imul, 1, 0, 0, 0), (52, .aload_n 0, 1, 0, 0, 0), (53, .getfield 28, 3, 304, 0, 0), (56, .aload_n 0, 1, 0, 0, 0), (57, .getfield 41, 3, 308, 0, 0), (60, .baload, 1, 0, 0, 0), (61, .iadd, 1, 0, 0, 0), (62, .bipush 48, 2, 0, 48, 0), (64, .isub, 1, 0, 0, 0), (65, .putfield 44, 3, 309, 0, 0), (68, .aload_n 0, 1, 0, 0, 0), (69, .dup, 1, 0, 0, 0), (70, .getfield 41, 3, 308, 0, 0), (73, .iconst 1, 1, 0, 1, 0), (74, .iadd, 1, 0, 0, 0), (75, .putfield 41, 3, 308, 0, 0), (78, .goto (-73), 3, 5, 0, 0), (81, .aload_n 0, 1, 0, 0, 0), (82, .aload_n 0, 1, 0, 0, 0), (83, .getfield 41, 3, 308, 0, 0), (86, .aload_n 0, 1, 0, 0, 0), (87, .getfield 38, 3, 307, 0, 0), (90, .if_icmp .le 20, 3, 110, 0, 0), (93, .aload_n 0, 1, 0, 0, 0), (94, .getfield 41, 3, 308, 0, 0), (97, .aload_n 0, 1, 0, 0, 0), (98, .getfield 38, 3, 307, 0, 0), (101, .isub, 1, 0, 0, 0), (102, .iconst 3, 1, 0, 3, 0), (103, .if_icmp .gt 7, 3, 110, 0, 0), (106, .iconst 2, 1, 0, 2, 0), (107, .goto 4, 3, 111, 0, 0), (110, .iconst 4, 1, 0, 4, 0), (111, .putfield 35, 3, 306, 0, 0), (114, .return_, 1, 0, 0, 0)]
/-- LastAsked$Reader.stands(J)Z -/
def xc_29 : List xCe := [(0, .aload_n 0, 1, 0, 0, 0), (1, .getfield 35, 3, 306, 0, 0), (4, .iconst 1, 1, 0, 1, 0), (5, .if_icmp .ne 16, 3, 21, 0, 0), (8, .aload_n 0, 1, 0, 0, 0), (9, .getfield 47, 3, 310, 0, 0), (12, .lload_n 1, 1, 0, 0, 0), (13, .lcmp, 1, 0, 0, 0), (14, .ifCond .ne 7, 3, 21, 0, 0), (17, .iconst 1, 1, 0, 1, 0), (18, .goto 4, 3, 22, 0, 0), (21, .iconst 0, 1, 0, 0, 0), (22, .ireturn, 1, 0, 0, 0)]
/-- LastAsked$Reader.takeWord(J)Z -/
def xc_30 : List xCe := [(0, .aload_n 0, 1, 0, 0, 0), (1, .invokevirtual 72, 3, 26, 0, 0), (4, .pop, 1, 0, 0, 0), (5, .aload_n 0, 1, 0, 0, 0), (6, .lload_n 1, 1, 0, 0, 0), (7, .invokevirtual 92, 3, 29, 0, 0), (10, .ifCond .ne 11, 3, 21, 0, 0), (13, .aload_n 0, 1, 0, 0, 0), (14, .iconst 1, 1, 0, 1, 0), (15, .invokevirtual 76, 3, 25, 0, 0), (18, .ifCond .eq 7, 3, 25, 0, 0), (21, .iconst 1, 1, 0, 1, 0), (22, .goto 4, 3, 26, 0, 0), (25, .iconst 0, 1, 0, 0, 0), (26, .ireturn, 1, 0, 0, 0)]
/-- LastAsked$Reader.takeWhole(I)Z -/
def xc_31 : List xCe := [(0, .aload_n 0, 1, 0, 0, 0), (1, .invokevirtual 72, 3, 26, 0, 0), (4, .iconst 2, 1, 0, 2, 0), (5, .if_icmp .eq 9, 3, 14, 0, 0), (8, .aload_n 0, 1, 0, 0, 0), (9, .iconst 1, 1, 0, 1, 0), (10, .invokevirtual 76, 3, 25, 0, 0), (13, .ireturn, 1, 0, 0, 0), (14, .aload_n 0, 1, 0, 0, 0), (15, .getfield 44, 3, 309, 0, 0), (18, .iload_n 1, 1, 0, 0, 0), (19, .if_icmp .le 11, 3, 30, 0, 0), (22, .aload_n 0, 1, 0, 0, 0), (23, .iconst 4, 1, 0, 4, 0), (24, .invokevirtual 76, 3, 25, 0, 0), (27, .ifCond .eq 7, 3, 34, 0, 0), (30, .iconst 1, 1, 0, 1, 0), (31, .goto 4, 3, 35, 0, 0), (34, .iconst 0, 1, 0, 0, 0), (35, .ireturn, 1, 0, 0, 0)]
/-- LastAsked$Reader.isName()Z -/
def xc_32 : List xCe := [(0, .aload_n 0, 1, 0, 0, 0), (1, .getfield 47, 3, 310, 0, 0), (4, .ldc2_w 96, 3, 0, 0, 1667855481), (7, .lcmp, 1, 0, 0, 0), (8, .ifCond .eq 69, 3, 77, 0, 0), (11, .aload_n 0, 1, 0, 0, 0), (12, .getfield 47, 3, 310, 0, 0), (15, .ldc2_w 98, 3, 0, 0, 123581014175598), (18, .lcmp, 1, 0, 0, 0), (19, .ifCond .eq 58, 3, 77, 0, 0), (22, .aload_n 0, 1, 0, 0, 0), (23, .getfield 47, 3, 310, 0, 0), (26, .ldc2_w 100, 3, 0, 0, 1852137842), (29, .lcmp, 1, 0, 0, 0), (30, .ifCond .eq 47, 3, 77, 0, 0), (33, .aload_n 0, 1, 0, 0, 0), (34, .getfield 47, 3, 310, 0, 0), (37, .ldc2_w 102, 3, 0, 0, 418548245860), (40, .lcmp, 1, 0, 0, 0), (41, .ifCond .eq 36, 3, 77, 0, 0), (44, .aload_n 0, 1, 0, 0, 0), (45, .getfield 47, 3, 310, 0, 0), (48, .ldc2_w 104, 3, 0, 0, 448377483876), (51, .lcmp, 1, 0, 0, 0), (52, .ifCond .eq 25, 3, 77, 0, 0), (55, .aload_n 0, 1, 0, 0, 0), (56, .getfield 47, 3, 310, 0, 0), (59, .ldc2_w 106, 3, 0, 0, 2003136116), (62, .lcmp, 1, 0, 0, 0), (63, .ifCond .eq 14, 3, 77, 0, 0), (66, .aload_n 0, 1, 0, 0, 0), (67, .getfield 47, 3, 310, 0, 0), (70, .ldc2_w 108, 3, 0, 0, 6513012), (73, .lcmp, 1, 0, 0, 0), (74, .ifCond .ne 7, 3, 81, 0, 0), (77, .iconst 1, 1, 0, 1, 0), (78, .goto 4, 3, 82, 0, 0), (81, .iconst 0, 1, 0, 0, 0), (82, .istore_n 1, 1, 0, 0, 0), (83, .aload_n 0, 1, 0, 0, 0), (84, .getfield 35, 3, 306, 0, 0), (87, .iconst 1, 1, 0, 1, 0), (88, .if_icmp .ne 11, 3, 99, 0, 0), (91, .iload_n 1, 1, 0, 0, 0), (92, .ifCond .ne 7, 3, 99, 0, 0), (95, .iconst 1, 1, 0, 1, 0), (96, .goto 4, 3, 100, 0, 0), (99, .iconst 0, 1, 0, 0, 0), (100, .ireturn, 1, 0, 0, 0)]
/-- LastAsked$Reader.bearer()I -/
def xc_33 : List xCe := [(0, .iconst 0, 1, 0, 0, 0), (1, .istore_n 1, 1, 0, 0, 0), (2, .iload_n 1, 1, 0, 0, 0), (3, .aload_n 0, 1, 0, 0, 0), (4, .getfield 21, 3, 302, 0, 0), (7, .getfield 80, 3, 2, 0, 0), (10, .if_icmp .ge 31, 3, 41, 0, 0), (13, .iload_n 1, 1, 0, 0, 0), (14, .bipush 6, 2, 0, 6, 0), (16, .if_icmp .ge 25, 3, 41, 0, 0), (19, .aload_n 0, 1, 0, 0, 0), (20, .getfield 55, 3, 312, 0, 0), (23, .iload_n 1, 1, 0, 0, 0), (24, .laload, 1, 0, 0, 0), (25, .aload_n 0, 1, 0, 0, 0), (26, .getfield 47, 3, 310, 0, 0), (29, .lcmp, 1, 0, 0, 0), (30, .ifCond .ne 5, 3, 35, 0, 0), (33, .iload_n 1, 1, 0, 0, 0), (34, .ireturn, 1, 0, 0, 0), (35, .iinc 1 1, 3, 0, 1, 0), (38, .goto (-36), 3, 2, 0, 0), (41, .iconst (-1), 1, 0, (-1), 0), (42, .ireturn, 1, 0, 0, 0)]
/-- LastAsked$Reader.personHere()I -/
def xc_34 : List xCe := [(0, .aload_n 0, 1, 0, 0, 0), (1, .invokevirtual 110, 3, 32, 0, 0), (4, .ifCond .eq 10, 3, 14, 0, 0), (7, .aload_n 0, 1, 0, 0, 0), (8, .invokevirtual 113, 3, 33, 0, 0), (11, .goto 4, 3, 15, 0, 0), (14, .iconst (-1), 1, 0, (-1), 0), (15, .istore_n 1, 1, 0, 0, 0), (16, .iload_n 1, 1, 0, 0, 0), (17, .iconst (-1), 1, 0, (-1), 0), (18, .if_icmp .ne 20, 3, 38, 0, 0), (21, .aload_n 0, 1, 0, 0, 0), (22, .aload_n 0, 1, 0, 0, 0), (23, .invokevirtual 110, 3, 32, 0, 0), (26, .ifCond .eq 7, 3, 33, 0, 0), (29, .iconst 2, 1, 0, 2, 0), (30, .goto 4, 3, 34, 0, 0), (33, .iconst 1, 1, 0, 1, 0), (34, .invokevirtual 76, 3, 25, 0, 0), (37, .pop, 1, 0, 0, 0), (38, .iload_n 1, 1, 0, 0, 0), (39, .ireturn, 1, 0, 0, 0)]
/-- LastAsked$Reader.takePerson()I -/
def xc_35 : List xCe := [(0, .aload_n 0, 1, 0, 0, 0), (1, .invokevirtual 72, 3, 26, 0, 0), (4, .pop, 1, 0, 0, 0), (5, .aload_n 0, 1, 0, 0, 0), (6, .invokevirtual 116, 3, 34, 0, 0), (9, .ireturn, 1, 0, 0, 0)]
/-- LastAsked$Reader.readLine()Z -/
def xc_36 : List xCe := [(0, .aload_n 0, 1, 0, 0, 0), (1, .invokevirtual 72, 3, 26, 0, 0), (4, .pop, 1, 0, 0, 0), (5, .aload_n 0, 1, 0, 0, 0), (6, .ldc2_w 96, 3, 0, 0, 1667855481), (9, .invokevirtual 92, 3, 29, 0, 0), (12, .ifCond .eq 23, 3, 35, 0, 0), (15, .aload_n 0, 1, 0, 0, 0), (16, .getfield 51, 3, 311, 0, 0), (19, .ifCond .eq 11, 3, 30, 0, 0), (22, .aload_n 0, 1, 0, 0, 0), (23, .iconst 3, 1, 0, 3, 0), (24, .invokevirtual 76, 3, 25, 0, 0), (27, .goto 7, 3, 34, 0, 0), (30, .aload_n 0, 1, 0, 0, 0), (31, .invokevirtual 119, 3, 37, 0, 0), (34, .ireturn, 1, 0, 0, 0), (35, .aload_n 0, 1, 0, 0, 0), (36, .ldc2_w 98, 3, 0, 0, 123581014175598), (39, .invokevirtual 92, 3, 29, 0, 0), (42, .istore_n 1, 1, 0, 0, 0), (43, .aload_n 0, 1, 0, 0, 0), (44, .ldc2_w 100, 3, 0, 0, 1852137842), (47, .invokevirtual 92, 3, 29, 0, 0), (50, .istore_n 2, 1, 0, 0, 0), (51, .aload_n 0, 1, 0, 0, 0), (52, .ldc2_w 102, 3, 0, 0, 418548245860), (55, .invokevirtual 92, 3, 29, 0, 0), (58, .istore_n 3, 1, 0, 0, 0), (59, .aload_n 0, 1, 0, 0, 0), (60, .ldc2_w 104, 3, 0, 0, 448377483876), (63, .invokevirtual 92, 3, 29, 0, 0), (66, .istore 4, 2, 0, 0, 0), (68, .iload_n 1, 1, 0, 0, 0), (69, .ifCond .ne 32, 3, 101, 0, 0), (72, .iload_n 2, 1, 0, 0, 0), (73, .ifCond .ne 28, 3, 101, 0, 0), (76, .iload_n 3, 1, 0, 0, 0), (77, .ifCond .ne 24, 3, 101, 0, 0), (80, .iload 4, 2, 0, 0, 0), (82, .ifCond .ne 19, 3, 101, 0, 0), (85, .aload_n 0, 1, 0, 0, 0), (86, .ldc2_w 106, 3, 0, 0, 2003136116), (89, .invokevirtual 92, 3, 29, 0, 0), (92, .ifCond .ne 9, 3, 101, 0, 0), (95, .aload_n 0, 1, 0, 0, 0), (96, .iconst 1, 1, 0, 1, 0), (97, .invokevirtual 76, 3, 25, 0, 0), (100, .ireturn, 1, 0, 0, 0), (101, .aload_n 0, 1, 0, 0, 0), (102, .getfield 51, 3, 311, 0, 0), (105, .ifCond .ne 10, 3, 115, 0, 0), (108, .aload_n 0, 1, 0, 0, 0), (109, .bipush 6, 2, 0, 6, 0), (111, .invokevirtual 76, 3, 25, 0, 0), (114, .ireturn, 1, 0, 0, 0), (115, .iload_n 1, 1, 0, 0, 0), (116, .ifCond .eq 28, 3, 144, 0, 0), (119, .aload_n 0, 1, 0, 0, 0), (120, .getfield 21, 3, 302, 0, 0), (123, .getfield 80, 3, 2, 0, 0), (126, .bipush 6, 2, 0, 6, 0), (128, .if_icmp .ge 10, 3, 138, 0, 0), (131, .aload_n 0, 1, 0, 0, 0), (132, .invokevirtual 122, 3, 38, 0, 0), (135, .goto 8, 3, 143, 0, 0), (138, .aload_n 0, 1, 0, 0, 0), (139, .iconst 5, 1, 0, 5, 0), (140, .invokevirtual 76, 3, 25, 0, 0), (143, .ireturn, 1, 0, 0, 0), (144, .iload_n 2, 1, 0, 0, 0), (145, .ifCond .eq 28, 3, 173, 0, 0), (148, .aload_n 0, 1, 0, 0, 0), (149, .getfield 21, 3, 302, 0, 0), (152, .getfield 125, 3, 3, 0, 0), (155, .bipush 9, 2, 0, 9, 0), (157, .if_icmp .ge 10, 3, 167, 0, 0), (160, .aload_n 0, 1, 0, 0, 0), (161, .invokevirtual 128, 3, 40, 0, 0), (164, .goto 8, 3, 172, 0, 0), (167, .aload_n 0, 1, 0, 0, 0), (168, .iconst 5, 1, 0, 5, 0), (169, .invokevirtual 76, 3, 25, 0, 0), (172, .ireturn, 1, 0, 0, 0), (173, .iload_n 3, 1, 0, 0, 0), (174, .ifCond .eq 28, 3, 202, 0, 0), (177, .aload_n 0, 1, 0, 0, 0), (178, .getfield 21, 3, 302, 0, 0), (181, .getfield 131, 3, 4, 0, 0), (184, .bipush 12, 2, 0, 12, 0), (186, .if_icmp .ge 10, 3, 196, 0, 0), (189, .aload_n 0, 1, 0, 0, 0), (190, .invokevirtual 134, 3, 42, 0, 0), (193, .goto 8, 3, 201, 0, 0), (196, .aload_n 0, 1, 0, 0, 0), (197, .iconst 5, 1, 0, 5, 0), (198, .invokevirtual 76, 3, 25, 0, 0), (201, .ireturn, 1, 0, 0, 0), (202, .iload 4, 2, 0, 0, 0), (204, .ifCond .eq 27, 3, 231, 0, 0), (207, .aload_n 0, 1, 0, 0, 0), (208, .getfield 21, 3, 302, 0, 0), (211, .getfield 137, 3, 5, 0, 0), (214, .iconst 3, 1, 0, 3, 0), (215, .if_icmp .ge 10, 3, 225, 0, 0), (218, .aload_n 0, 1, 0, 0, 0), (219, .invokevirtual 140, 3, 43, 0, 0), (222, .goto 8, 3, 230, 0, 0), (225, .aload_n 0, 1, 0, 0, 0), (226, .iconst 5, 1, 0, 5, 0), (227, .invokevirtual 76, 3, 25, 0, 0), (230, .ireturn, 1, 0, 0, 0), (231, .aload_n 0, 1, 0, 0, 0), (232, .invokevirtual 143, 3, 44, 0, 0), (235, .ireturn, 1, 0, 0, 0)]
/-- LastAsked$Reader.readHead()Z -/
def xc_37 : List xCe := [(0, .aload_n 0, 1, 0, 0, 0), (1, .iconst 1, 1, 0, 1, 0), (2, .putfield 51, 3, 311, 0, 0), (5, .aload_n 0, 1, 0, 0, 0), (6, .ldc2_w 146, 3, 0, 0, 1752135026), (9, .invokevirtual 148, 3, 30, 0, 0), (12, .ifCond .eq 12, 3, 24, 0, 0), (15, .aload_n 0, 1, 0, 0, 0), (16, .bipush 99, 2, 0, 99, 0), (18, .invokevirtual 151, 3, 31, 0, 0), (21, .ifCond .ne 5, 3, 26, 0, 0), (24, .iconst 0, 1, 0, 0, 0), (25, .ireturn, 1, 0, 0, 0), (26, .aload_n 0, 1, 0, 0, 0), (27, .getfield 21, 3, 302, 0, 0), (30, .aload_n 0, 1, 0, 0, 0), (31, .getfield 44, 3, 309, 0, 0), (34, .putfield 154, 3, 0, 0, 0), (37, .aload_n 0, 1, 0, 0, 0), (38, .ldc2_w 157, 3, 0, 0, 444150998387), (41, .invokevirtual 148, 3, 30, 0, 0), (44, .ifCond .eq 12, 3, 56, 0, 0), (47, .aload_n 0, 1, 0, 0, 0), (48, .bipush 9, 2, 0, 9, 0), (50, .invokevirtual 151, 3, 31, 0, 0), (53, .ifCond .ne 5, 3, 58, 0, 0), (56, .iconst 0, 1, 0, 0, 0), (57, .ireturn, 1, 0, 0, 0), (58, .aload_n 0, 1, 0, 0, 0), (59, .getfield 21, 3, 302, 0, 0), (62, .aload_n 0, 1, 0, 0, 0), (63, .getfield 44, 3, 309, 0, 0), (66, .putfield 159, 3, 1, 0, 0), (69, .iconst 1, 1, 0, 1, 0), (70, .ireturn, 1, 0, 0, 0)]
/-- LastAsked$Reader.readNewPerson()Z -/
def xc_38 : List xCe := [(0, .aload_n 0, 1, 0, 0, 0), (1, .getfield 21, 3, 302, 0, 0), (4, .getfield 80, 3, 2, 0, 0), (7, .istore_n 1, 1, 0, 0, 0), (8, .aload_n 0, 1, 0, 0, 0), (9, .invokevirtual 72, 3, 26, 0, 0), (12, .pop, 1, 0, 0, 0), (13, .aload_n 0, 1, 0, 0, 0), (14, .invokevirtual 110, 3, 32, 0, 0), (17, .ifCond .ne 9, 3, 26, 0, 0), (20, .aload_n 0, 1, 0, 0, 0), (21, .iconst 1, 1, 0, 1, 0), (22, .invokevirtual 76, 3, 25, 0, 0), (25, .ireturn, 1, 0, 0, 0), (26, .aload_n 0, 1, 0, 0, 0), (27, .invokevirtual 113, 3, 33, 0, 0), (30, .iconst (-1), 1, 0, (-1), 0), (31, .if_icmp .eq 9, 3, 40, 0, 0), (34, .aload_n 0, 1, 0, 0, 0), (35, .iconst 3, 1, 0, 3, 0), (36, .invokevirtual 76, 3, 25, 0, 0), (39, .ireturn, 1, 0, 0, 0), (40, .aload_n 0, 1, 0, 0, 0), (41, .getfield 55, 3, 312, 0, 0), (44, .iload_n 1, 1, 0, 0, 0), (45, .aload_n 0, 1, 0, 0, 0), (46, .getfield 47, 3, 310, 0, 0), (49, .lastore, 1, 0, 0, 0), (50, .aload_n 0, 1, 0, 0, 0), (51, .getfield 21, 3, 302, 0, 0), (54, .getfield 162, 3, 7, 0, 0), (57, .iload_n 1, 1, 0, 0, 0), (58, .aload_n 0, 1, 0, 0, 0), (59, .invokevirtual 166, 3, 39, 0, 0), (62, .iastore, 1, 0, 0, 0), (63, .aload_n 0, 1, 0, 0, 0), (64, .getfield 21, 3, 302, 0, 0), (67, .getfield 162, 3, 7, 0, 0), (70, .iload_n 1, 1, 0, 0, 0), (71, .iaload, 1, 0, 0, 0), (72, .iconst (-1), 1, 0, (-1), 0), (73, .if_icmp .ne 9, 3, 82, 0, 0), (76, .aload_n 0, 1, 0, 0, 0), (77, .iconst 1, 1, 0, 1, 0), (78, .invokevirtual 76, 3, 25, 0, 0), (81, .ireturn, 1, 0, 0, 0), (82, .aload_n 0, 1, 0, 0, 0), (83, .ldc2_w 169, 3, 0, 0, 6840691), (86, .invokevirtual 148, 3, 30, 0, 0), (89, .ifCond .eq 12, 3, 101, 0, 0), (92, .aload_n 0, 1, 0, 0, 0), (93, .bipush 99, 2, 0, 99, 0), (95, .invokevirtual 151, 3, 31, 0, 0), (98, .ifCond .ne 5, 3, 103, 0, 0), (101, .iconst 0, 1, 0, 0, 0), (102, .ireturn, 1, 0, 0, 0), (103, .aload_n 0, 1, 0, 0, 0), (104, .getfield 21, 3, 302, 0, 0), (107, .getfield 171, 3, 8, 0, 0), (110, .iload_n 1, 1, 0, 0, 0), (111, .aload_n 0, 1, 0, 0, 0), (112, .getfield 44, 3, 309, 0, 0), (115, .iastore, 1, 0, 0, 0), (116, .aload_n 0, 1, 0, 0, 0), (117, .ldc2_w 174, 3, 0, 0, 1684628851), (120, .invokevirtual 148, 3, 30, 0, 0), (123, .ifCond .eq 12, 3, 135, 0, 0), (126, .aload_n 0, 1, 0, 0, 0), (127, .bipush 100, 2, 0, 100, 0), (129, .invokevirtual 151, 3, 31, 0, 0), (132, .ifCond .ne 5, 3, 137, 0, 0), (135, .iconst 0, 1, 0, 0, 0), (136, .ireturn, 1, 0, 0, 0), (137, .aload_n 0, 1, 0, 0, 0), (138, .getfield 21, 3, 302, 0, 0), (141, .getfield 176, 3, 9, 0, 0), (144, .iload_n 1, 1, 0, 0, 0), (145, .aload_n 0, 1, 0, 0, 0), (146, .getfield 44, 3, 309, 0, 0), (149, .iastore, 1, 0, 0, 0), (150, .aload_n 0, 1, 0, 0, 0), (151, .getfield 21, 3, 302, 0, 0), (154, .dup, 1, 0, 0, 0), (155, .getfield 80, 3, 2, 0, 0), (158, .iconst 1, 1, 0, 1, 0), (159, .iadd, 1, 0, 0, 0), (160, .putfield 80, 3, 2, 0, 0), (163, .iconst 1, 1, 0, 1, 0), (164, .ireturn, 1, 0, 0, 0)]
/-- LastAsked$Reader.takeKind()I -/
def xc_39 : List xCe := [(0, .aload_n 0, 1, 0, 0, 0), (1, .invokevirtual 72, 3, 26, 0, 0), (4, .pop, 1, 0, 0, 0), (5, .aload_n 0, 1, 0, 0, 0), (6, .ldc2_w 179, 3, 0, 0, 482854660462), (9, .invokevirtual 92, 3, 29, 0, 0), (12, .ifCond .eq 7, 3, 19, 0, 0), (15, .iconst 0, 1, 0, 0, 0), (16, .goto 46, 3, 62, 0, 0), (19, .aload_n 0, 1, 0, 0, 0), (20, .ldc2_w 181, 3, 0, 0, 1936225652), (23, .invokevirtual 92, 3, 29, 0, 0), (26, .ifCond .eq 7, 3, 33, 0, 0), (29, .iconst 1, 1, 0, 1, 0), (30, .goto 32, 3, 62, 0, 0), (33, .aload_n 0, 1, 0, 0, 0), (34, .ldc2_w 183, 3, 0, 0, 131260314576228), (37, .invokevirtual 92, 3, 29, 0, 0), (40, .ifCond .eq 7, 3, 47, 0, 0), (43, .iconst 2, 1, 0, 2, 0), (44, .goto 18, 3, 62, 0, 0), (47, .aload_n 0, 1, 0, 0, 0), (48, .ldc2_w 185, 3, 0, 0, 110429572722546), (51, .invokevirtual 92, 3, 29, 0, 0), (54, .ifCond .eq 7, 3, 61, 0, 0), (57, .iconst 3, 1, 0, 3, 0), (58, .goto 4, 3, 62, 0, 0), (61, .iconst (-1), 1, 0, (-1), 0), (62, .ireturn, 1, 0, 0, 0)]
/-- LastAsked$Reader.readNear()Z -/
def xc_40 : List xCe := [(0, .aload_n 0, 1, 0, 0, 0), (1, .invokevirtual 187, 3, 35, 0, 0), (4, .istore_n 1, 1, 0, 0, 0), (5, .iload_n 1, 1, 0, 0, 0), (6, .iconst (-1), 1, 0, (-1), 0), (7, .if_icmp .ne 5, 3, 12, 0, 0), (10, .iconst 0, 1, 0, 0, 0), (11, .ireturn, 1, 0, 0, 0), (12, .aload_n 0, 1, 0, 0, 0), (13, .invokevirtual 187, 3, 35, 0, 0), (16, .istore_n 2, 1, 0, 0, 0), (17, .iload_n 2, 1, 0, 0, 0), (18, .iconst (-1), 1, 0, (-1), 0), (19, .if_icmp .ne 5, 3, 24, 0, 0), (22, .iconst 0, 1, 0, 0, 0), (23, .ireturn, 1, 0, 0, 0), (24, .iload_n 2, 1, 0, 0, 0), (25, .iload_n 1, 1, 0, 0, 0), (26, .if_icmp .eq 19, 3, 45, 0, 0), (29, .aload_n 0, 1, 0, 0, 0), (30, .getfield 21, 3, 302, 0, 0), (33, .getfield 190, 3, 10, 0, 0), (36, .iload_n 1, 1, 0, 0, 0), (37, .iaload, 1, 0, 0, 0), (38, .iload_n 2, 1, 0, 0, 0), (39, .invokestatic 193, 3, 124, 0, 0), (42, .ifCond .eq 9, 3, 51, 0, 0), (45, .aload_n 0, 1, 0, 0, 0), (46, .iconst 3, 1, 0, 3, 0), (47, .invokevirtual 76, 3, 25, 0, 0), (50, .ireturn, 1, 0, 0, 0), (51, .aload_n 0, 1, 0, 0, 0), (52, .getfield 21, 3, 302, 0, 0), (55, .getfield 190, 3, 10, 0, 0), (58, .iload_n 1, 1, 0, 0, 0), (59, .dup2, 1, 0, 0, 0), (60, .iaload, 1, 0, 0, 0), (61, .iconst 1, 1, 0, 1, 0), (62, .iload_n 2, 1, 0, 0, 0), (63, .ishl, 1, 0, 0, 0), (64, .ior, 1, 0, 0, 0), (65, .iastore, 1, 0, 0, 0), (66, .aload_n 0, 1, 0, 0, 0), (67, .getfield 21, 3, 302, 0, 0), (70, .getfield 190, 3, 10, 0, 0), (73, .iload_n 2, 1, 0, 0, 0), (74, .dup2, 1, 0, 0, 0), (75, .iaload, 1, 0, 0, 0), (76, .iconst 1, 1, 0, 1, 0), (77, .iload_n 1, 1, 0, 0, 0), (78, .ishl, 1, 0, 0, 0), (79, .ior, 1, 0, 0, 0), (80, .iastore, 1, 0, 0, 0), (81, .aload_n 0, 1, 0, 0, 0), (82, .getfield 21, 3, 302, 0, 0), (85, .dup, 1, 0, 0, 0), (86, .getfield 125, 3, 3, 0, 0), (89, .iconst 1, 1, 0, 1, 0), (90, .iadd, 1, 0, 0, 0), (91, .putfield 125, 3, 3, 0, 0), (94, .iconst 1, 1, 0, 1, 0), (95, .ireturn, 1, 0, 0, 0)]
/-- LastAsked$Reader.takePair()I -/
def xc_41 : List xCe := [(0, .aload_n 0, 1, 0, 0, 0), (1, .invokevirtual 187, 3, 35, 0, 0), (4, .istore_n 1, 1, 0, 0, 0), (5, .iload_n 1, 1, 0, 0, 0), (6, .iconst (-1), 1, 0, (-1), 0), (7, .if_icmp .ne 5, 3, 12, 0, 0), (10, .iconst (-1), 1, 0, (-1), 0), (11, .ireturn, 1, 0, 0, 0), (12, .aload_n 0, 1, 0, 0, 0), (13, .getfield 21, 3, 302, 0, 0), (16, .getfield 162, 3, 7, 0, 0), (19, .iload_n 1, 1, 0, 0, 0), (20, .iaload, 1, 0, 0, 0), (21, .iconst 3, 1, 0, 3, 0), (22, .if_icmp .ne 12, 3, 34, 0, 0), (25, .aload_n 0, 1, 0, 0, 0), (26, .bipush 7, 2, 0, 7, 0), (28, .invokevirtual 76, 3, 25, 0, 0), (31, .pop, 1, 0, 0, 0), (32, .iconst (-1), 1, 0, (-1), 0), (33, .ireturn, 1, 0, 0, 0), (34, .aload_n 0, 1, 0, 0, 0), (35, .invokevirtual 187, 3, 35, 0, 0), (38, .istore_n 2, 1, 0, 0, 0), (39, .iload_n 2, 1, 0, 0, 0), (40, .iconst (-1), 1, 0, (-1), 0), (41, .if_icmp .ne 5, 3, 46, 0, 0), (44, .iconst (-1), 1, 0, (-1), 0), (45, .ireturn, 1, 0, 0, 0), (46, .iload_n 2, 1, 0, 0, 0), (47, .iload_n 1, 1, 0, 0, 0), (48, .if_icmp .eq 21, 3, 69, 0, 0), (51, .aload_n 0, 1, 0, 0, 0), (52, .getfield 21, 3, 302, 0, 0), (55, .getfield 197, 3, 12, 0, 0), (58, .iload_n 1, 1, 0, 0, 0), (59, .iload_n 2, 1, 0, 0, 0), (60, .invokestatic 200, 3, 125, 0, 0), (63, .iaload, 1, 0, 0, 0), (64, .bipush (-2), 2, 0, (-2), 0), (66, .if_icmp .eq 11, 3, 77, 0, 0), (69, .aload_n 0, 1, 0, 0, 0), (70, .iconst 3, 1, 0, 3, 0), (71, .invokevirtual 76, 3, 25, 0, 0), (74, .pop, 1, 0, 0, 0), (75, .iconst (-1), 1, 0, (-1), 0), (76, .ireturn, 1, 0, 0, 0), (77, .aload_n 0, 1, 0, 0, 0), (78, .getfield 21, 3, 302, 0, 0), (81, .iload_n 1, 1, 0, 0, 0), (82, .iload_n 2, 1, 0, 0, 0), (83, .invokevirtual 203, 3, 4, 0, 0), (86, .ifCond .ne 12, 3, 98, 0, 0), (89, .aload_n 0, 1, 0, 0, 0), (90, .bipush 7, 2, 0, 7, 0), (92, .invokevirtual 76, 3, 25, 0, 0), (95, .pop, 1, 0, 0, 0), (96, .iconst (-1), 1, 0, (-1), 0), (97, .ireturn, 1, 0, 0, 0), (98, .iload_n 1, 1, 0, 0, 0), (99, .iload_n 2, 1, 0, 0, 0), (100, .invokestatic 200, 3, 125, 0, 0), (103, .ireturn, 1, 0, 0, 0)]
/-- LastAsked$Reader.readAsked()Z -/
def xc_42 : List xCe := [(0, .aload_n 0, 1, 0, 0, 0), (1, .invokevirtual 206, 3, 41, 0, 0), (4, .istore_n 1, 1, 0, 0, 0), (5, .iload_n 1, 1, 0, 0, 0), (6, .iconst (-1), 1, 0, (-1), 0), (7, .if_icmp .eq 27, 3, 34, 0, 0), (10, .aload_n 0, 1, 0, 0, 0), (11, .ldc2_w 209, 3, 0, 0, 24948), (14, .invokevirtual 148, 3, 30, 0, 0), (17, .ifCond .eq 17, 3, 34, 0, 0), (20, .aload_n 0, 1, 0, 0, 0), (21, .aload_n 0, 1, 0, 0, 0), (22, .getfield 21, 3, 302, 0, 0), (25, .getfield 154, 3, 0, 0, 0), (28, .invokevirtual 151, 3, 31, 0, 0), (31, .ifCond .ne 5, 3, 36, 0, 0), (34, .iconst 0, 1, 0, 0, 0), (35, .ireturn, 1, 0, 0, 0), (36, .aload_n 0, 1, 0, 0, 0), (37, .getfield 21, 3, 302, 0, 0), (40, .getfield 197, 3, 12, 0, 0), (43, .iload_n 1, 1, 0, 0, 0), (44, .aload_n 0, 1, 0, 0, 0), (45, .getfield 44, 3, 309, 0, 0), (48, .iastore, 1, 0, 0, 0), (49, .aload_n 0, 1, 0, 0, 0), (50, .getfield 21, 3, 302, 0, 0), (53, .dup, 1, 0, 0, 0), (54, .getfield 131, 3, 4, 0, 0), (57, .iconst 1, 1, 0, 1, 0), (58, .iadd, 1, 0, 0, 0), (59, .putfield 131, 3, 4, 0, 0), (62, .iconst 1, 1, 0, 1, 0), (63, .ireturn, 1, 0, 0, 0)]
/-- LastAsked$Reader.readHeard()Z -/
def xc_43 : List xCe := [(0, .aload_n 0, 1, 0, 0, 0), (1, .getfield 21, 3, 302, 0, 0), (4, .getfield 137, 3, 5, 0, 0), (7, .istore_n 1, 1, 0, 0, 0), (8, .aload_n 0, 1, 0, 0, 0), (9, .invokevirtual 206, 3, 41, 0, 0), (12, .istore_n 2, 1, 0, 0, 0), (13, .iload_n 2, 1, 0, 0, 0), (14, .iconst (-1), 1, 0, (-1), 0), (15, .if_icmp .eq 27, 3, 42, 0, 0), (18, .aload_n 0, 1, 0, 0, 0), (19, .ldc2_w 209, 3, 0, 0, 24948), (22, .invokevirtual 148, 3, 30, 0, 0), (25, .ifCond .eq 17, 3, 42, 0, 0), (28, .aload_n 0, 1, 0, 0, 0), (29, .aload_n 0, 1, 0, 0, 0), (30, .getfield 21, 3, 302, 0, 0), (33, .getfield 154, 3, 0, 0, 0), (36, .invokevirtual 151, 3, 31, 0, 0), (39, .ifCond .ne 5, 3, 44, 0, 0), (42, .iconst 0, 1, 0, 0, 0), (43, .ireturn, 1, 0, 0, 0), (44, .aload_n 0, 1, 0, 0, 0), (45, .getfield 21, 3, 302, 0, 0), (48, .getfield 197, 3, 12, 0, 0), (51, .iload_n 2, 1, 0, 0, 0), (52, .aload_n 0, 1, 0, 0, 0), (53, .getfield 44, 3, 309, 0, 0), (56, .iastore, 1, 0, 0, 0), (57, .aload_n 0, 1, 0, 0, 0), (58, .getfield 21, 3, 302, 0, 0), (61, .getfield 211, 3, 14, 0, 0), (64, .iload_n 1, 1, 0, 0, 0), (65, .iload_n 2, 1, 0, 0, 0), (66, .iastore, 1, 0, 0, 0), (67, .aload_n 0, 1, 0, 0, 0), (68, .getfield 21, 3, 302, 0, 0), (71, .getfield 214, 3, 15, 0, 0), (74, .iload_n 1, 1, 0, 0, 0), (75, .aload_n 0, 1, 0, 0, 0), (76, .getfield 44, 3, 309, 0, 0), (79, .iastore, 1, 0, 0, 0), (80, .aload_n 0, 1, 0, 0, 0), (81, .ldc2_w 217, 3, 0, 0, 1734964837), (84, .invokevirtual 148, 3, 30, 0, 0), (87, .ifCond .eq 11, 3, 98, 0, 0), (90, .aload_n 0, 1, 0, 0, 0), (91, .iconst 3, 1, 0, 3, 0), (92, .invokevirtual 151, 3, 31, 0, 0), (95, .ifCond .ne 5, 3, 100, 0, 0), (98, .iconst 0, 1, 0, 0, 0), (99, .ireturn, 1, 0, 0, 0), (100, .aload_n 0, 1, 0, 0, 0), (101, .getfield 21, 3, 302, 0, 0), (104, .getfield 219, 3, 16, 0, 0), (107, .iload_n 1, 1, 0, 0, 0), (108, .aload_n 0, 1, 0, 0, 0), (109, .getfield 44, 3, 309, 0, 0), (112, .iastore, 1, 0, 0, 0), (113, .aload_n 0, 1, 0, 0, 0), (114, .getfield 21, 3, 302, 0, 0), (117, .dup, 1, 0, 0, 0), (118, .getfield 137, 3, 5, 0, 0), (121, .iconst 1, 1, 0, 1, 0), (122, .iadd, 1, 0, 0, 0), (123, .putfield 137, 3, 5, 0, 0), (126, .iconst 1, 1, 0, 1, 0), (127, .ireturn, 1, 0, 0, 0)]
/-- LastAsked$Reader.readWent()Z -/
def xc_44 : List xCe := [(0, .aload_n 0, 1, 0, 0, 0), (1, .invokevirtual 187, 3, 35, 0, 0), (4, .istore_n 1, 1, 0, 0, 0), (5, .iload_n 1, 1, 0, 0, 0), (6, .iconst (-1), 1, 0, (-1), 0), (7, .if_icmp .ne 5, 3, 12, 0, 0), (10, .iconst 0, 1, 0, 0, 0), (11, .ireturn, 1, 0, 0, 0), (12, .aload_n 0, 1, 0, 0, 0), (13, .getfield 21, 3, 302, 0, 0), (16, .getfield 222, 3, 11, 0, 0), (19, .iload_n 1, 1, 0, 0, 0), (20, .iaload, 1, 0, 0, 0), (21, .bipush (-3), 2, 0, (-3), 0), (23, .if_icmp .eq 9, 3, 32, 0, 0), (26, .aload_n 0, 1, 0, 0, 0), (27, .iconst 3, 1, 0, 3, 0), (28, .invokevirtual 76, 3, 25, 0, 0), (31, .ireturn, 1, 0, 0, 0), (32, .aload_n 0, 1, 0, 0, 0), (33, .invokevirtual 72, 3, 26, 0, 0), (36, .pop, 1, 0, 0, 0), (37, .aload_n 0, 1, 0, 0, 0), (38, .ldc2_w 108, 3, 0, 0, 6513012), (41, .invokevirtual 92, 3, 29, 0, 0), (44, .ifCond .eq 8, 3, 52, 0, 0), (47, .bipush (-2), 2, 0, (-2), 0), (49, .goto 7, 3, 56, 0, 0), (52, .aload_n 0, 1, 0, 0, 0), (53, .invokevirtual 116, 3, 34, 0, 0), (56, .istore_n 2, 1, 0, 0, 0), (57, .iload_n 2, 1, 0, 0, 0), (58, .iconst (-1), 1, 0, (-1), 0), (59, .if_icmp .ne 5, 3, 64, 0, 0), (62, .iconst 0, 1, 0, 0, 0), (63, .ireturn, 1, 0, 0, 0), (64, .iload_n 2, 1, 0, 0, 0), (65, .iload_n 1, 1, 0, 0, 0), (66, .if_icmp .ne 9, 3, 75, 0, 0), (69, .aload_n 0, 1, 0, 0, 0), (70, .iconst 3, 1, 0, 3, 0), (71, .invokevirtual 76, 3, 25, 0, 0), (74, .ireturn, 1, 0, 0, 0), (75, .aload_n 0, 1, 0, 0, 0), (76, .getfield 21, 3, 302, 0, 0), (79, .getfield 222, 3, 11, 0, 0), (82, .iload_n 1, 1, 0, 0, 0), (83, .iload_n 2, 1, 0, 0, 0), (84, .iastore, 1, 0, 0, 0), (85, .aload_n 0, 1, 0, 0, 0), (86, .getfield 21, 3, 302, 0, 0), (89, .dup, 1, 0, 0, 0), (90, .getfield 225, 3, 6, 0, 0), (93, .iconst 1, 1, 0, 1, 0), (94, .iadd, 1, 0, 0, 0), (95, .putfield 225, 3, 6, 0, 0), (98, .iconst 1, 1, 0, 1, 0), (99, .ireturn, 1, 0, 0, 0)]
/-- LastAsked$State.<init>()V -/
def xc_45 : List xCe := [(0, .aload_n 0, 1, 0, 0, 0), (1, .invokespecial 3, 3, 9000, 0, 0), (4, .aload_n 0, 1, 0, 0, 0), (5, .iconst 0, 1, 0, 0, 0), (6, .putfield 9, 3, 400, 0, 0), (9, .aload_n 0, 1, 0, 0, 0), (10, .iconst 0, 1, 0, 0, 0), (11, .putfield 15, 3, 401, 0, 0), (14, .aload_n 0, 1, 0, 0, 0), (15, .iconst 0, 1, 0, 0, 0), (16, .putfield 18, 3, 402, 0, 0), (19, .aload_n 0, 1, 0, 0, 0), (20, .iconst 0, 1, 0, 0, 0), (21, .putfield 21, 3, 403, 0, 0), (24, .aload_n 0, 1, 0, 0, 0), (25, .iconst 0, 1, 0, 0, 0), (26, .putfield 24, 3, 404, 0, 0), (29, .aload_n 0, 1, 0, 0, 0), (30, .bipush 6, 2, 0, 6, 0), (32, .newarray .int, 2, 11, 0, 0), (34, .putfield 27, 3, 405, 0, 0), (37, .aload_n 0, 1, 0, 0, 0), (38, .bipush 36, 2, 0, 36, 0), (40, .newarray .int, 2, 11, 0, 0), (42, .putfield 31, 3, 406, 0, 0), (45, .return_, 1, 0, 0, 0)]
/-- LastAsked$State.begin(LLastAsked$City;)V -/
def xc_46 : List xCe := [(0, .aload_n 0, 1, 0, 0, 0), (1, .aload_n 1, 1, 0, 0, 0), (2, .getfield 34, 3, 0, 0, 0), (5, .putfield 9, 3, 400, 0, 0), (8, .aload_n 0, 1, 0, 0, 0), (9, .iconst 0, 1, 0, 0, 0), (10, .putfield 15, 3, 401, 0, 0), (13, .aload_n 0, 1, 0, 0, 0), (14, .iconst 0, 1, 0, 0, 0), (15, .putfield 18, 3, 402, 0, 0), (18, .aload_n 0, 1, 0, 0, 0), (19, .iconst 0, 1, 0, 0, 0), (20, .putfield 21, 3, 403, 0, 0), (23, .aload_n 0, 1, 0, 0, 0), (24, .aload_n 1, 1, 0, 0, 0), (25, .invokevirtual 37, 3, 3, 0, 0), (28, .putfield 24, 3, 404, 0, 0), (31, .aload_n 1, 1, 0, 0, 0), (32, .getfield 41, 3, 8, 0, 0), (35, .iconst 0, 1, 0, 0, 0), (36, .aload_n 0, 1, 0, 0, 0), (37, .getfield 27, 3, 405, 0, 0), (40, .iconst 0, 1, 0, 0, 0), (41, .bipush 6, 2, 0, 6, 0), (43, .invokestatic 42, 3, 9003, 0, 0), (46, .aload_n 1, 1, 0, 0, 0), (47, .getfield 48, 3, 12, 0, 0), (50, .iconst 0, 1, 0, 0, 0), (51, .aload_n 0, 1, 0, 0, 0), (52, .getfield 31, 3, 406, 0, 0), (55, .iconst 0, 1, 0, 0, 0), (56, .bipush 36, 2, 0, 36, 0), (58, .invokestatic 42, 3, 9003, 0, 0), (61, .return_, 1, 0, 0, 0)]
/-- LastAsked$State.copy(LLastAsked$State;)V -/
def xc_47 : List xCe := [(0, .aload_n 0, 1, 0, 0, 0), (1, .aload_n 1, 1, 0, 0, 0), (2, .getfield 9, 3, 400, 0, 0), (5, .putfield 9, 3, 400, 0, 0), (8, .aload_n 0, 1, 0, 0, 0), (9, .aload_n 1, 1, 0, 0, 0), (10, .getfield 15, 3, 401, 0, 0), (13, .putfield 15, 3, 401, 0, 0), (16, .aload_n 0, 1, 0, 0, 0), (17, .aload_n 1, 1, 0, 0, 0), (18, .getfield 18, 3, 402, 0, 0), (21, .putfield 18, 3, 402, 0, 0), (24, .aload_n 0, 1, 0, 0, 0), (25, .aload_n 1, 1, 0, 0, 0), (26, .getfield 21, 3, 403, 0, 0), (29, .putfield 21, 3, 403, 0, 0), (32, .aload_n 0, 1, 0, 0, 0), (33, .aload_n 1, 1, 0, 0, 0), (34, .getfield 24, 3, 404, 0, 0), (37, .putfield 24, 3, 404, 0, 0), (40, .aload_n 1, 1, 0, 0, 0), (41, .getfield 27, 3, 405, 0, 0), (44, .iconst 0, 1, 0, 0, 0), (45, .aload_n 0, 1, 0, 0, 0), (46, .getfield 27, 3, 405, 0, 0), (49, .iconst 0, 1, 0, 0, 0), (50, .bipush 6, 2, 0, 6, 0), (52, .invokestatic 42, 3, 9003, 0, 0), (55, .aload_n 1, 1, 0, 0, 0), (56, .getfield 31, 3, 406, 0, 0), (59, .iconst 0, 1, 0, 0, 0), (60, .aload_n 0, 1, 0, 0, 0), (61, .getfield 31, 3, 406, 0, 0), (64, .iconst 0, 1, 0, 0, 0), (65, .bipush 36, 2, 0, 36, 0), (67, .invokestatic 42, 3, 9003, 0, 0), (70, .return_, 1, 0, 0, 0)]
/-- LastAsked$State.alive(I)Z -/
def xc_48 : List xCe := [(0, .aload_n 0, 1, 0, 0, 0), (1, .getfield 24, 3, 404, 0, 0), (4, .iload_n 1, 1, 0, 0, 0), (5, .invokestatic 49, 3, 124, 0, 0), (8, .ireturn, 1, 0, 0, 0)]
/-- LastAsked$State.give(III)I -/
def xc_49 : List xCe := [(0, .aload_n 0, 1, 0, 0, 0), (1, .dup, 1, 0, 0, 0), (2, .getfield 9, 3, 400, 0, 0), (5, .iconst 1, 1, 0, 1, 0), (6, .iadd, 1, 0, 0, 0), (7, .putfield 9, 3, 400, 0, 0), (10, .aload_n 0, 1, 0, 0, 0), (11, .getfield 31, 3, 406, 0, 0), (14, .iload_n 1, 1, 0, 0, 0), (15, .iload_n 2, 1, 0, 0, 0), (16, .invokestatic 53, 3, 125, 0, 0), (19, .aload_n 0, 1, 0, 0, 0), (20, .getfield 9, 3, 400, 0, 0), (23, .iastore, 1, 0, 0, 0), (24, .iload_n 3, 1, 0, 0, 0), (25, .aload_n 0, 1, 0, 0, 0), (26, .getfield 27, 3, 405, 0, 0), (29, .iload_n 2, 1, 0, 0, 0), (30, .iaload, 1, 0, 0, 0), (31, .invokestatic 57, 3, 9001, 0, 0), (34, .istore 4, 2, 0, 0, 0), (36, .aload_n 0, 1, 0, 0, 0), (37, .getfield 27, 3, 405, 0, 0), (40, .iload_n 2, 1, 0, 0, 0), (41, .dup2, 1, 0, 0, 0), (42, .iaload, 1, 0, 0, 0), (43, .iload 4, 2, 0, 0, 0), (45, .isub, 1, 0, 0, 0), (46, .iastore, 1, 0, 0, 0), (47, .aload_n 0, 1, 0, 0, 0), (48, .getfield 27, 3, 405, 0, 0), (51, .iload_n 1, 1, 0, 0, 0), (52, .dup2, 1, 0, 0, 0), (53, .iaload, 1, 0, 0, 0), (54, .iload 4, 2, 0, 0, 0), (56, .iadd, 1, 0, 0, 0), (57, .iastore, 1, 0, 0, 0), (58, .iload 4, 2, 0, 0, 0), (60, .ireturn, 1, 0, 0, 0)]
/-- LastAsked$State.draw()I -/
def xc_50 : List xCe := [(0, .aload_n 0, 1, 0, 0, 0), (1, .bipush 75, 2, 0, 75, 0), (3, .aload_n 0, 1, 0, 0, 0), (4, .getfield 15, 3, 401, 0, 0), (7, .imul, 1, 0, 0, 0), (8, .bipush 74, 2, 0, 74, 0), (10, .iadd, 1, 0, 0, 0), (11, .ldc 62, 2, 0, 65537, 0), (13, .irem, 1, 0, 0, 0), (14, .putfield 15, 3, 401, 0, 0), (17, .aload_n 0, 1, 0, 0, 0), (18, .getfield 15, 3, 401, 0, 0), (21, .ireturn, 1, 0, 0, 0)]
/-- LastAsked$State.leave(ILLastAsked$Wills;)V -/
def xc_51 : List xCe := [(0, .iconst 0, 1, 0, 0, 0), (1, .istore_n 3, 1, 0, 0, 0), (2, .iload_n 3, 1, 0, 0, 0), (3, .bipush 6, 2, 0, 6, 0), (5, .if_icmp .ge 73, 3, 78, 0, 0), (8, .iload_n 1, 1, 0, 0, 0), (9, .iload_n 3, 1, 0, 0, 0), (10, .invokestatic 49, 3, 124, 0, 0), (13, .ifCond .eq 59, 3, 72, 0, 0), (16, .aload_n 0, 1, 0, 0, 0), (17, .getfield 27, 3, 405, 0, 0), (20, .iload_n 3, 1, 0, 0, 0), (21, .iaload, 1, 0, 0, 0), (22, .istore 4, 2, 0, 0, 0), (24, .aload_n 0, 1, 0, 0, 0), (25, .getfield 27, 3, 405, 0, 0), (28, .iload_n 3, 1, 0, 0, 0), (29, .iconst 0, 1, 0, 0, 0), (30, .iastore, 1, 0, 0, 0), (31, .aload_n 2, 1, 0, 0, 0), (32, .iload_n 3, 1, 0, 0, 0), (33, .iload_n 1, 1, 0, 0, 0), (34, .invokevirtual 63, 3, 59, 0, 0), (37, .istore 5, 2, 0, 0, 0), (39, .iload 5, 2, 0, 0, 0), (41, .bipush (-2), 2, 0, (-2), 0), (43, .if_icmp .ne 17, 3, 60, 0, 0), (46, .aload_n 0, 1, 0, 0, 0), (47, .dup, 1, 0, 0, 0), (48, .getfield 21, 3, 403, 0, 0), (51, .iload 4, 2, 0, 0, 0), (53, .iadd, 1, 0, 0, 0), (54, .putfield 21, 3, 403, 0, 0), (57, .goto 15, 3, 72, 0, 0), (60, .aload_n 0, 1, 0, 0, 0), (61, .getfield 27, 3, 405, 0, 0), (64, .iload 5, 2, 0, 0, 0), (66, .dup2, 1, 0, 0, 0), (67, .iaload, 1, 0, 0, 0), (68, .iload 4, 2, 0, 0, 0), (70, .iadd, 1, 0, 0, 0), (71, .iastore, 1, 0, 0, 0), (72, .iinc 3 1, 3, 0, 1, 0), (75, .goto (-73), 3, 2, 0, 0), (78, .aload_n 0, 1, 0, 0, 0), (79, .dup, 1, 0, 0, 0), (80, .getfield 24, 3, 404, 0, 0), (83, .iload_n 1, 1, 0, 0, 0), (84, .iconst (-1), 1, 0, (-1), 0), (85, .ixor, 1, 0, 0, 0), (86, .iand, 1, 0, 0, 0), (87, .putfield 24, 3, 404, 0, 0), (90, .return_, 1, 0, 0, 0)]
/-- LastAsked$Walks.<init>()V -/
def xc_52 : List xCe := [(0, .aload_n 0, 1, 0, 0, 0), (1, .invokespecial 3, 3, 9000, 0, 0), (4, .aload_n 0, 1, 0, 0, 0), (5, .sipush 384, 3, 0, 384, 0), (8, .newarray .int, 2, 11, 0, 0), (10, .putfield 9, 3, 500, 0, 0), (13, .return_, 1, 0, 0, 0)]
/-- LastAsked$Walks.measure(I[I)V -/
def xc_53 : List xCe := [(0, .iconst 1, 1, 0, 1, 0), (1, .istore_n 3, 1, 0, 0, 0), (2, .iload_n 3, 1, 0, 0, 0), (3, .bipush 64, 2, 0, 64, 0), (5, .if_icmp .ge 61, 3, 66, 0, 0), (8, .iconst 0, 1, 0, 0, 0), (9, .istore 4, 2, 0, 0, 0), (11, .iload 4, 2, 0, 0, 0), (13, .bipush 6, 2, 0, 6, 0), (15, .if_icmp .ge 45, 3, 60, 0, 0), (18, .aload_n 0, 1, 0, 0, 0), (19, .getfield 9, 3, 500, 0, 0), (22, .iload_n 3, 1, 0, 0, 0), (23, .bipush 6, 2, 0, 6, 0), (25, .imul, 1, 0, 0, 0), (26, .iload 4, 2, 0, 0, 0), (28, .iadd, 1, 0, 0, 0), (29, .iload_n 3, 1, 0, 0, 0), (30, .iload 4, 2, 0, 0, 0), (32, .invokestatic 15, 3, 124, 0, 0), (35, .ifCond .eq 15, 3, 50, 0, 0), (38, .aload_n 0, 1, 0, 0, 0), (39, .iload_n 1, 1, 0, 0, 0), (40, .iload_n 3, 1, 0, 0, 0), (41, .iload 4, 2, 0, 0, 0), (43, .aload_n 2, 1, 0, 0, 0), (44, .invokevirtual 19, 3, 54, 0, 0), (47, .goto 6, 3, 53, 0, 0), (50, .sipush 1000, 3, 0, 1000, 0), (53, .iastore, 1, 0, 0, 0), (54, .iinc 4 1, 3, 0, 1, 0), (57, .goto (-46), 3, 11, 0, 0), (60, .iinc 3 1, 3, 0, 1, 0), (63, .goto (-61), 3, 2, 0, 0), (66, .return_, 1, 0, 0, 0)]
/-- LastAsked$Walks.leastTo(III[I)I -/
def xc_54 : List xCe := [(0, .iload_n 2, 1, 0, 0, 0), (1, .iconst 1, 1, 0, 1, 0), (2, .iload_n 3, 1, 0, 0, 0), (3, .ishl, 1, 0, 0, 0), (4, .iconst (-1), 1, 0, (-1), 0), (5, .ixor, 1, 0, 0, 0), (6, .iand, 1, 0, 0, 0), (7, .istore 5, 2, 0, 0, 0), (9, .iload 5, 2, 0, 0, 0), (11, .ifCond .ne 12, 3, 23, 0, 0), (14, .aload 4, 2, 0, 0, 0), (16, .iload_n 1, 1, 0, 0, 0), (17, .iload_n 3, 1, 0, 0, 0), (18, .invokestatic 23, 3, 125, 0, 0), (21, .iaload, 1, 0, 0, 0), (22, .ireturn, 1, 0, 0, 0), (23, .sipush 1000, 3, 0, 1000, 0), (26, .istore 6, 2, 0, 0, 0), (28, .iconst 0, 1, 0, 0, 0), (29, .istore 7, 2, 0, 0, 0), (31, .iload 7, 2, 0, 0, 0), (33, .bipush 6, 2, 0, 6, 0), (35, .if_icmp .ge 49, 3, 84, 0, 0), (38, .iload 5, 2, 0, 0, 0), (40, .iload 7, 2, 0, 0, 0), (42, .invokestatic 15, 3, 124, 0, 0), (45, .ifCond .eq 33, 3, 78, 0, 0), (48, .iload 6, 2, 0, 0, 0), (50, .aload_n 0, 1, 0, 0, 0), (51, .getfield 9, 3, 500, 0, 0), (54, .iload 5, 2, 0, 0, 0), (56, .bipush 6, 2, 0, 6, 0), (58, .imul, 1, 0, 0, 0), (59, .iload 7, 2, 0, 0, 0), (61, .iadd, 1, 0, 0, 0), (62, .iaload, 1, 0, 0, 0), (63, .aload 4, 2, 0, 0, 0), (65, .iload 7, 2, 0, 0, 0), (67, .iload_n 3, 1, 0, 0, 0), (68, .invokestatic 23, 3, 125, 0, 0), (71, .iaload, 1, 0, 0, 0), (72, .iadd, 1, 0, 0, 0), (73, .invokestatic 27, 3, 9001, 0, 0), (76, .istore 6, 2, 0, 0, 0), (78, .iinc 7 1, 3, 0, 1, 0), (81, .goto (-50), 3, 31, 0, 0), (84, .iload 6, 2, 0, 0, 0), (86, .ireturn, 1, 0, 0, 0)]
/-- LastAsked$Walks.hoursFor(I)I -/
def xc_55 : List xCe := [(0, .iload_n 1, 1, 0, 0, 0), (1, .ifCond .le 9, 3, 10, 0, 0), (4, .iload_n 1, 1, 0, 0, 0), (5, .bipush 64, 2, 0, 64, 0), (7, .if_icmp .lt 5, 3, 12, 0, 0), (10, .iconst 0, 1, 0, 0, 0), (11, .ireturn, 1, 0, 0, 0), (12, .sipush 1000, 3, 0, 1000, 0), (15, .istore_n 2, 1, 0, 0, 0), (16, .iconst 0, 1, 0, 0, 0), (17, .istore_n 3, 1, 0, 0, 0), (18, .iload_n 3, 1, 0, 0, 0), (19, .bipush 6, 2, 0, 6, 0), (21, .if_icmp .ge 25, 3, 46, 0, 0), (24, .iload_n 2, 1, 0, 0, 0), (25, .aload_n 0, 1, 0, 0, 0), (26, .getfield 9, 3, 500, 0, 0), (29, .iload_n 1, 1, 0, 0, 0), (30, .bipush 6, 2, 0, 6, 0), (32, .imul, 1, 0, 0, 0), (33, .iload_n 3, 1, 0, 0, 0), (34, .iadd, 1, 0, 0, 0), (35, .iaload, 1, 0, 0, 0), (36, .invokestatic 27, 3, 9001, 0, 0), (39, .istore_n 2, 1, 0, 0, 0), (40, .iinc 3 1, 3, 0, 1, 0), (43, .goto (-25), 3, 18, 0, 0), (46, .iload_n 2, 1, 0, 0, 0), (47, .ireturn, 1, 0, 0, 0)]
/-- LastAsked$Wills.<init>()V -/
def xc_56 : List xCe := [(0, .aload_n 0, 1, 0, 0, 0), (1, .invokespecial 3, 3, 9000, 0, 0), (4, .aload_n 0, 1, 0, 0, 0), (5, .bipush 6, 2, 0, 6, 0), (7, .newarray .int, 2, 11, 0, 0), (9, .putfield 9, 3, 600, 0, 0), (12, .return_, 1, 0, 0, 0)]
/-- LastAsked$Wills.read([II)V -/
def xc_57 : List xCe := [(0, .iconst 0, 1, 0, 0, 0), (1, .istore_n 3, 1, 0, 0, 0), (2, .iload_n 3, 1, 0, 0, 0), (3, .bipush 6, 2, 0, 6, 0), (5, .if_icmp .ge 34, 3, 39, 0, 0), (8, .aload_n 0, 1, 0, 0, 0), (9, .getfield 9, 3, 600, 0, 0), (12, .iload_n 3, 1, 0, 0, 0), (13, .iload_n 2, 1, 0, 0, 0), (14, .iload_n 3, 1, 0, 0, 0), (15, .invokestatic 15, 3, 124, 0, 0), (18, .ifCond .eq 12, 3, 30, 0, 0), (21, .aload_n 1, 1, 0, 0, 0), (22, .iload_n 2, 1, 0, 0, 0), (23, .iload_n 3, 1, 0, 0, 0), (24, .invokestatic 19, 3, 58, 0, 0), (27, .goto 5, 3, 32, 0, 0), (30, .bipush (-2), 2, 0, (-2), 0), (32, .iastore, 1, 0, 0, 0), (33, .iinc 3 1, 3, 0, 1, 0), (36, .goto (-34), 3, 2, 0, 0), (39, .return_, 1, 0, 0, 0)]
/-- LastAsked$Wills.latest([III)I -/
def xc_58 : List xCe := [(0, .bipush (-2), 2, 0, (-2), 0), (2, .istore_n 3, 1, 0, 0, 0), (3, .bipush (-2), 2, 0, (-2), 0), (5, .istore 4, 2, 0, 0, 0), (7, .iconst 0, 1, 0, 0, 0), (8, .istore 5, 2, 0, 0, 0), (10, .iload 5, 2, 0, 0, 0), (12, .bipush 6, 2, 0, 6, 0), (14, .if_icmp .ge 50, 3, 64, 0, 0), (17, .iload 5, 2, 0, 0, 0), (19, .iload_n 2, 1, 0, 0, 0), (20, .if_icmp .eq 38, 3, 58, 0, 0), (23, .iload_n 1, 1, 0, 0, 0), (24, .iload 5, 2, 0, 0, 0), (26, .invokestatic 15, 3, 124, 0, 0), (29, .ifCond .eq 29, 3, 58, 0, 0), (32, .aload_n 0, 1, 0, 0, 0), (33, .iload 5, 2, 0, 0, 0), (35, .iload_n 2, 1, 0, 0, 0), (36, .invokestatic 23, 3, 125, 0, 0), (39, .iaload, 1, 0, 0, 0), (40, .iload 4, 2, 0, 0, 0), (42, .if_icmp .le 16, 3, 58, 0, 0), (45, .iload 5, 2, 0, 0, 0), (47, .istore_n 3, 1, 0, 0, 0), (48, .aload_n 0, 1, 0, 0, 0), (49, .iload 5, 2, 0, 0, 0), (51, .iload_n 2, 1, 0, 0, 0), (52, .invokestatic 23, 3, 125, 0, 0), (55, .iaload, 1, 0, 0, 0), (56, .istore 4, 2, 0, 0, 0), (58, .iinc 5 1, 3, 0, 1, 0), (61, .goto (-51), 3, 10, 0, 0), (64, .iload_n 3, 1, 0, 0, 0), (65, .ireturn, 1, 0, 0, 0)]
/-- LastAsked$Wills.endOf(II)I -/
def xc_59 : List xCe := [(0, .iconst 0, 1, 0, 0, 0), (1, .istore_n 3, 1, 0, 0, 0), (2, .iload_n 1, 1, 0, 0, 0), (3, .istore 4, 2, 0, 0, 0), (5, .iconst 0, 1, 0, 0, 0), (6, .istore 5, 2, 0, 0, 0), (8, .iload 5, 2, 0, 0, 0), (10, .bipush 6, 2, 0, 6, 0), (12, .if_icmp .ge 56, 3, 68, 0, 0), (15, .iload_n 3, 1, 0, 0, 0), (16, .iconst 1, 1, 0, 1, 0), (17, .iload 4, 2, 0, 0, 0), (19, .ishl, 1, 0, 0, 0), (20, .ior, 1, 0, 0, 0), (21, .istore_n 3, 1, 0, 0, 0), (22, .aload_n 0, 1, 0, 0, 0), (23, .getfield 9, 3, 600, 0, 0), (26, .iload 4, 2, 0, 0, 0), (28, .iaload, 1, 0, 0, 0), (29, .istore 4, 2, 0, 0, 0), (31, .iload 4, 2, 0, 0, 0), (33, .bipush (-2), 2, 0, (-2), 0), (35, .if_icmp .eq 12, 3, 47, 0, 0), (38, .iload_n 3, 1, 0, 0, 0), (39, .iload 4, 2, 0, 0, 0), (41, .invokestatic 15, 3, 124, 0, 0), (44, .ifCond .eq 6, 3, 50, 0, 0), (47, .bipush (-2), 2, 0, (-2), 0), (49, .ireturn, 1, 0, 0, 0), (50, .iload_n 2, 1, 0, 0, 0), (51, .iload 4, 2, 0, 0, 0), (53, .invokestatic 15, 3, 124, 0, 0), (56, .ifCond .ne 6, 3, 62, 0, 0), (59, .iload 4, 2, 0, 0, 0), (61, .ireturn, 1, 0, 0, 0), (62, .iinc 5 1, 3, 0, 1, 0), (65, .goto (-57), 3, 8, 0, 0), (68, .bipush (-2), 2, 0, (-2), 0), (70, .ireturn, 1, 0, 0, 0)]
/-- LastAsked$Wills.between(II)I -/
def xc_60 : List xCe := [(0, .iconst 0, 1, 0, 0, 0), (1, .istore_n 3, 1, 0, 0, 0), (2, .iload_n 1, 1, 0, 0, 0), (3, .istore 4, 2, 0, 0, 0), (5, .iconst 0, 1, 0, 0, 0), (6, .istore 5, 2, 0, 0, 0), (8, .iload 5, 2, 0, 0, 0), (10, .bipush 6, 2, 0, 6, 0), (12, .if_icmp .ge 40, 3, 52, 0, 0), (15, .iload 4, 2, 0, 0, 0), (17, .bipush (-2), 2, 0, (-2), 0), (19, .if_icmp .eq 33, 3, 52, 0, 0), (22, .iload 4, 2, 0, 0, 0), (24, .iload_n 2, 1, 0, 0, 0), (25, .if_icmp .ne 5, 3, 30, 0, 0), (28, .iload_n 3, 1, 0, 0, 0), (29, .ireturn, 1, 0, 0, 0), (30, .iload_n 3, 1, 0, 0, 0), (31, .iconst 1, 1, 0, 1, 0), (32, .iload 4, 2, 0, 0, 0), (34, .ishl, 1, 0, 0, 0), (35, .ior, 1, 0, 0, 0), (36, .istore_n 3, 1, 0, 0, 0), (37, .aload_n 0, 1, 0, 0, 0), (38, .getfield 9, 3, 600, 0, 0), (41, .iload 4, 2, 0, 0, 0), (43, .iaload, 1, 0, 0, 0), (44, .istore 4, 2, 0, 0, 0), (46, .iinc 5 1, 3, 0, 1, 0), (49, .goto (-41), 3, 8, 0, 0), (52, .iconst (-1), 1, 0, (-1), 0), (53, .ireturn, 1, 0, 0, 0)]
/-- LastAsked$Wills.untilCat(I)I -/
def xc_61 : List xCe := [(0, .iconst 0, 1, 0, 0, 0), (1, .istore_n 2, 1, 0, 0, 0), (2, .iload_n 1, 1, 0, 0, 0), (3, .istore_n 3, 1, 0, 0, 0), (4, .iconst 0, 1, 0, 0, 0), (5, .istore 4, 2, 0, 0, 0), (7, .iload 4, 2, 0, 0, 0), (9, .bipush 6, 2, 0, 6, 0), (11, .if_icmp .ge 28, 3, 39, 0, 0), (14, .iload_n 3, 1, 0, 0, 0), (15, .bipush (-2), 2, 0, (-2), 0), (17, .if_icmp .eq 22, 3, 39, 0, 0), (20, .iload_n 2, 1, 0, 0, 0), (21, .iconst 1, 1, 0, 1, 0), (22, .iload_n 3, 1, 0, 0, 0), (23, .ishl, 1, 0, 0, 0), (24, .ior, 1, 0, 0, 0), (25, .istore_n 2, 1, 0, 0, 0), (26, .aload_n 0, 1, 0, 0, 0), (27, .getfield 9, 3, 600, 0, 0), (30, .iload_n 3, 1, 0, 0, 0), (31, .iaload, 1, 0, 0, 0), (32, .istore_n 3, 1, 0, 0, 0), (33, .iinc 4 1, 3, 0, 1, 0), (36, .goto (-29), 3, 7, 0, 0), (39, .iload_n 2, 1, 0, 0, 0), (40, .ireturn, 1, 0, 0, 0)]
/-- LastAsked$Wills.comesBack(I)Z -/
def xc_62 : List xCe := [(0, .aload_n 0, 1, 0, 0, 0), (1, .getfield 9, 3, 600, 0, 0), (4, .iload_n 1, 1, 0, 0, 0), (5, .iaload, 1, 0, 0, 0), (6, .istore_n 2, 1, 0, 0, 0), (7, .iconst 0, 1, 0, 0, 0), (8, .istore_n 3, 1, 0, 0, 0), (9, .iload_n 3, 1, 0, 0, 0), (10, .bipush 6, 2, 0, 6, 0), (12, .if_icmp .ge 29, 3, 41, 0, 0), (15, .iload_n 2, 1, 0, 0, 0), (16, .bipush (-2), 2, 0, (-2), 0), (18, .if_icmp .eq 23, 3, 41, 0, 0), (21, .iload_n 2, 1, 0, 0, 0), (22, .iload_n 1, 1, 0, 0, 0), (23, .if_icmp .ne 5, 3, 28, 0, 0), (26, .iconst 1, 1, 0, 1, 0), (27, .ireturn, 1, 0, 0, 0), (28, .aload_n 0, 1, 0, 0, 0), (29, .getfield 9, 3, 600, 0, 0), (32, .iload_n 2, 1, 0, 0, 0), (33, .iaload, 1, 0, 0, 0), (34, .istore_n 2, 1, 0, 0, 0), (35, .iinc 3 1, 3, 0, 1, 0), (38, .goto (-29), 3, 9, 0, 0), (41, .iconst 0, 1, 0, 0, 0), (42, .ireturn, 1, 0, 0, 0)]
/-- LastAsked.<init>()V -/
def xc_63 : List xCe := [(0, .aload_n 0, 1, 0, 0, 0), (1, .invokespecial 1, 3, 9000, 0, 0), (4, .aload_n 0, 1, 0, 0, 0), (5, .new 7, 3, 3, 0, 0), (8, .dup, 1, 0, 0, 0), (9, .invokespecial 9, 3, 22, 0, 0), (12, .putfield 10, 3, 700, 0, 0), (15, .aload_n 0, 1, 0, 0, 0), (16, .new 16, 3, 0, 0, 0), (19, .dup, 1, 0, 0, 0), (20, .invokespecial 18, 3, 0, 0, 0), (23, .putfield 19, 3, 701, 0, 0), (26, .aload_n 0, 1, 0, 0, 0), (27, .new 23, 3, 4, 0, 0), (30, .dup, 1, 0, 0, 0), (31, .invokespecial 25, 3, 45, 0, 0), (34, .putfield 26, 3, 702, 0, 0), (37, .aload_n 0, 1, 0, 0, 0), (38, .new 23, 3, 4, 0, 0), (41, .dup, 1, 0, 0, 0), (42, .invokespecial 25, 3, 45, 0, 0), (45, .putfield 30, 3, 703, 0, 0), (48, .aload_n 0, 1, 0, 0, 0), (49, .new 33, 3, 2, 0, 0), (52, .dup, 1, 0, 0, 0), (53, .invokespecial 35, 3, 16, 0, 0), (56, .putfield 36, 3, 704, 0, 0), (59, .aload_n 0, 1, 0, 0, 0), (60, .new 40, 3, 6, 0, 0), (63, .dup, 1, 0, 0, 0), (64, .invokespecial 42, 3, 56, 0, 0), (67, .putfield 43, 3, 705, 0, 0), (70, .aload_n 0, 1, 0, 0, 0), (71, .new 47, 3, 5, 0, 0), (74, .dup, 1, 0, 0, 0), (75, .invokespecial 49, 3, 52, 0, 0), (78, .putfield 50, 3, 706, 0, 0), (81, .aload_n 0, 1, 0, 0, 0), (82, .new 54, 3, 1, 0, 0), (85, .dup, 1, 0, 0, 0), (86, .invokespecial 56, 3, 6, 0, 0), (89, .putfield 57, 3, 707, 0, 0), (92, .aload_n 0, 1, 0, 0, 0), (93, .iconst 0, 1, 0, 0, 0), (94, .putfield 61, 3, 708, 0, 0), (97, .aload_n 0, 1, 0, 0, 0), (98, .iconst 0, 1, 0, 0, 0), (99, .putfield 65, 3, 709, 0, 0), (102, .return_, 1, 0, 0, 0)]
/-- LastAsked.feed(IIIII)I -/
def xc_64 : List xCe := [(0, .aload_n 0, 1, 0, 0, 0), (1, .getfield 10, 3, 700, 0, 0), (4, .getfield 68, 3, 300, 0, 0), (7, .bipush 20, 2, 0, 20, 0), (9, .iadd, 1, 0, 0, 0), (10, .sipush 900, 3, 0, 900, 0), (13, .if_icmp .le 5, 3, 18, 0, 0), (16, .iconst (-1), 1, 0, (-1), 0), (17, .ireturn, 1, 0, 0, 0), (18, .aload_n 0, 1, 0, 0, 0), (19, .getfield 10, 3, 700, 0, 0), (22, .iload_n 1, 1, 0, 0, 0), (23, .invokevirtual 71, 3, 23, 0, 0), (26, .aload_n 0, 1, 0, 0, 0), (27, .getfield 10, 3, 700, 0, 0), (30, .iload_n 2, 1, 0, 0, 0), (31, .invokevirtual 71, 3, 23, 0, 0), (34, .aload_n 0, 1, 0, 0, 0), (35, .getfield 10, 3, 700, 0, 0), (38, .iload_n 3, 1, 0, 0, 0), (39, .invokevirtual 71, 3, 23, 0, 0), (42, .aload_n 0, 1, 0, 0, 0), (43, .getfield 10, 3, 700, 0, 0), (46, .iload 4, 2, 0, 0, 0), (48, .invokevirtual 71, 3, 23, 0, 0), (51, .aload_n 0, 1, 0, 0, 0), (52, .getfield 10, 3, 700, 0, 0), (55, .iload 5, 2, 0, 0, 0), (57, .invokevirtual 71, 3, 23, 0, 0), (60, .aload_n 0, 1, 0, 0, 0), (61, .getfield 10, 3, 700, 0, 0), (64, .getfield 68, 3, 300, 0, 0), (67, .ireturn, 1, 0, 0, 0)]
/-- LastAsked.city(I)I -/
def xc_65 : List xCe := [(0, .aload_n 0, 1, 0, 0, 0), (1, .iload_n 1, 1, 0, 0, 0), (2, .ifCond .lt 14, 3, 16, 0, 0), (5, .iload_n 1, 1, 0, 0, 0), (6, .aload_n 0, 1, 0, 0, 0), (7, .getfield 10, 3, 700, 0, 0), (10, .getfield 68, 3, 300, 0, 0), (13, .if_icmp .le 7, 3, 20, 0, 0), (16, .iconst 2, 1, 0, 2, 0), (17, .goto 4, 3, 21, 0, 0), (20, .iconst 0, 1, 0, 0, 0), (21, .invokevirtual 75, 3, 114, 0, 0), (24, .ifCond .eq 5, 3, 29, 0, 0), (27, .iconst (-1), 1, 0, (-1), 0), (28, .ireturn, 1, 0, 0, 0), (29, .aload_n 0, 1, 0, 0, 0), (30, .aload_n 0, 1, 0, 0, 0), (31, .getfield 10, 3, 700, 0, 0), (34, .iload_n 1, 1, 0, 0, 0), (35, .invokevirtual 79, 3, 24, 0, 0), (38, .putfield 65, 3, 709, 0, 0), (41, .aload_n 0, 1, 0, 0, 0), (42, .aload_n 0, 1, 0, 0, 0), (43, .getfield 65, 3, 709, 0, 0), (46, .ifCond .eq 7, 3, 53, 0, 0), (49, .iconst 4, 1, 0, 4, 0), (50, .goto 4, 3, 54, 0, 0), (53, .iconst 0, 1, 0, 0, 0), (54, .invokevirtual 75, 3, 114, 0, 0), (57, .ifCond .eq 5, 3, 62, 0, 0), (60, .iconst (-1), 1, 0, (-1), 0), (61, .ireturn, 1, 0, 0, 0), (62, .aload_n 0, 1, 0, 0, 0), (63, .getfield 19, 3, 701, 0, 0), (66, .aload_n 0, 1, 0, 0, 0), (67, .getfield 10, 3, 700, 0, 0), (70, .getfield 83, 3, 302, 0, 0), (73, .invokevirtual 86, 3, 2, 0, 0), (76, .aload_n 0, 1, 0, 0, 0), (77, .getfield 26, 3, 702, 0, 0), (80, .aload_n 0, 1, 0, 0, 0), (81, .getfield 19, 3, 701, 0, 0), (84, .invokevirtual 90, 3, 46, 0, 0), (87, .aload_n 0, 1, 0, 0, 0), (88, .getfield 36, 3, 704, 0, 0), (91, .invokevirtual 93, 3, 17, 0, 0), (94, .aload_n 0, 1, 0, 0, 0), (95, .getfield 19, 3, 701, 0, 0), (98, .getfield 96, 3, 2, 0, 0), (101, .ireturn, 1, 0, 0, 0)]
/-- LastAsked.fault()I -/
def xc_66 : List xCe := [(0, .aload_n 0, 1, 0, 0, 0), (1, .getfield 65, 3, 709, 0, 0), (4, .ireturn, 1, 0, 0, 0)]
/-- LastAsked.where()I -/
def xc_67 : List xCe := [(0, .aload_n 0, 1, 0, 0, 0), (1, .getfield 61, 3, 708, 0, 0), (4, .iconst 4, 1, 0, 4, 0), (5, .if_icmp .ne 13, 3, 18, 0, 0), (8, .aload_n 0, 1, 0, 0, 0), (9, .getfield 10, 3, 700, 0, 0), (12, .getfield 99, 3, 301, 0, 0), (15, .goto 4, 3, 19, 0, 0), (18, .iconst (-1), 1, 0, (-1), 0), (19, .ireturn, 1, 0, 0, 0)]
/-- LastAsked.person(II)I -/
def xc_68 : List xCe := [(0, .aload_n 0, 1, 0, 0, 0), (1, .aload_n 0, 1, 0, 0, 0), (2, .iload_n 1, 1, 0, 0, 0), (3, .invokevirtual 102, 3, 116, 0, 0), (6, .ifCond .eq 17, 3, 23, 0, 0), (9, .iload_n 2, 1, 0, 0, 0), (10, .ifCond .lt 13, 3, 23, 0, 0), (13, .iload_n 2, 1, 0, 0, 0), (14, .bipush 6, 2, 0, 6, 0), (16, .if_icmp .gt 7, 3, 23, 0, 0), (19, .iconst 0, 1, 0, 0, 0), (20, .goto 4, 3, 24, 0, 0), (23, .iconst 1, 1, 0, 1, 0), (24, .invokevirtual 75, 3, 114, 0, 0), (27, .ifCond .eq 5, 3, 32, 0, 0), (30, .iconst (-1), 1, 0, (-1), 0), (31, .ireturn, 1, 0, 0, 0), (32, .iload_n 2, 1, 0, 0, 0), (33, .tableswitch 102 0 5 #[39, 49, 59, 69, 86, 96], 39, 0, 0, 0), (72, .aload_n 0, 1, 0, 0, 0), (73, .getfield 19, 3, 701, 0, 0), (76, .getfield 105, 3, 7, 0, 0), (79, .iload_n 1, 1, 0, 0, 0), (80, .iaload, 1, 0, 0, 0), (81, .ireturn, 1, 0, 0, 0), (82, .aload_n 0, 1, 0, 0, 0), (83, .getfield 26, 3, 702, 0, 0), (86, .getfield 109, 3, 405, 0, 0), (89, .iload_n 1, 1, 0, 0, 0), (90, .iaload, 1, 0, 0, 0), (91, .ireturn, 1, 0, 0, 0), (92, .aload_n 0, 1, 0, 0, 0), (93, .getfield 19, 3, 701, 0, 0), (96, .getfield 112, 3, 9, 0, 0), (99, .iload_n 1, 1, 0, 0, 0), (100, .iaload, 1, 0, 0, 0), (101, .ireturn, 1, 0, 0, 0), (102, .aload_n 0, 1, 0, 0, 0), (103, .getfield 26, 3, 702, 0, 0), (106, .iload_n 1, 1, 0, 0, 0), (107, .invokevirtual 115, 3, 48, 0, 0), (110, .ifCond .eq 7, 3, 117, 0, 0), (113, .iconst 1, 1, 0, 1, 0), (114, .goto 4, 3, 118, 0, 0), (117, .iconst 0, 1, 0, 0, 0), (118, .ireturn, 1, 0, 0, 0), (119, .aload_n 0, 1, 0, 0, 0), (120, .getfield 19, 3, 701, 0, 0), (123, .getfield 118, 3, 10, 0, 0), (126, .iload_n 1, 1, 0, 0, 0), (127, .iaload, 1, 0, 0, 0), (128, .ireturn, 1, 0, 0, 0), (129, .aload_n 0, 1, 0, 0, 0), (130, .iload_n 1, 1, 0, 0, 0), (131, .invokevirtual 121, 3, 126, 0, 0), (134, .ireturn, 1, 0, 0, 0), (135, .aload_n 0, 1, 0, 0, 0), (136, .iload_n 1, 1, 0, 0, 0), (137, .invokevirtual 124, 3, 127, 0, 0), (140, .ireturn, 1, 0, 0, 0)]
/-- LastAsked.register(II)I -/
def xc_69 : List xCe := [(0, .aload_n 0, 1, 0, 0, 0), (1, .aload_n 0, 1, 0, 0, 0), (2, .iload_n 1, 1, 0, 0, 0), (3, .iload_n 2, 1, 0, 0, 0), (4, .invokevirtual 127, 3, 117, 0, 0), (7, .ifCond .eq 7, 3, 14, 0, 0), (10, .iconst 0, 1, 0, 0, 0), (11, .goto 4, 3, 15, 0, 0), (14, .iconst 1, 1, 0, 1, 0), (15, .invokevirtual 75, 3, 114, 0, 0), (18, .ifCond .eq 5, 3, 23, 0, 0), (21, .iconst (-1), 1, 0, (-1), 0), (22, .ireturn, 1, 0, 0, 0), (23, .aload_n 0, 1, 0, 0, 0), (24, .getfield 26, 3, 702, 0, 0), (27, .getfield 131, 3, 406, 0, 0), (30, .iload_n 1, 1, 0, 0, 0), (31, .iload_n 2, 1, 0, 0, 0), (32, .invokestatic 134, 3, 125, 0, 0), (35, .iaload, 1, 0, 0, 0), (36, .ireturn, 1, 0, 0, 0)]
/-- LastAsked.heir(I)I -/
def xc_70 : List xCe := [(0, .aload_n 0, 1, 0, 0, 0), (1, .aload_n 0, 1, 0, 0, 0), (2, .iload_n 1, 1, 0, 0, 0), (3, .invokevirtual 138, 3, 119, 0, 0), (6, .invokevirtual 75, 3, 114, 0, 0), (9, .ifCond .eq 5, 3, 14, 0, 0), (12, .iconst (-1), 1, 0, (-1), 0), (13, .ireturn, 1, 0, 0, 0), (14, .aload_n 0, 1, 0, 0, 0), (15, .invokevirtual 141, 3, 129, 0, 0), (18, .getfield 145, 3, 600, 0, 0), (21, .iload_n 1, 1, 0, 0, 0), (22, .iaload, 1, 0, 0, 0), (23, .ireturn, 1, 0, 0, 0)]
/-- LastAsked.heirTo(I)I -/
def xc_71 : List xCe := [(0, .aload_n 0, 1, 0, 0, 0), (1, .aload_n 0, 1, 0, 0, 0), (2, .iload_n 1, 1, 0, 0, 0), (3, .invokevirtual 102, 3, 116, 0, 0), (6, .ifCond .eq 7, 3, 13, 0, 0), (9, .iconst 0, 1, 0, 0, 0), (10, .goto 4, 3, 14, 0, 0), (13, .iconst 1, 1, 0, 1, 0), (14, .invokevirtual 75, 3, 114, 0, 0), (17, .ifCond .eq 5, 3, 22, 0, 0), (20, .iconst (-1), 1, 0, (-1), 0), (21, .ireturn, 1, 0, 0, 0), (22, .aload_n 0, 1, 0, 0, 0), (23, .iload_n 1, 1, 0, 0, 0), (24, .invokevirtual 148, 3, 130, 0, 0), (27, .ireturn, 1, 0, 0, 0)]
/-- LastAsked.hopes(I)I -/
def xc_72 : List xCe := [(0, .aload_n 0, 1, 0, 0, 0), (1, .aload_n 0, 1, 0, 0, 0), (2, .iload_n 1, 1, 0, 0, 0), (3, .invokevirtual 138, 3, 119, 0, 0), (6, .invokevirtual 75, 3, 114, 0, 0), (9, .ifCond .eq 5, 3, 14, 0, 0), (12, .iconst (-1), 1, 0, (-1), 0), (13, .ireturn, 1, 0, 0, 0), (14, .aload_n 0, 1, 0, 0, 0), (15, .iload_n 1, 1, 0, 0, 0), (16, .invokevirtual 148, 3, 130, 0, 0), (19, .istore_n 2, 1, 0, 0, 0), (20, .aload_n 0, 1, 0, 0, 0), (21, .iload_n 1, 1, 0, 0, 0), (22, .iload_n 2, 1, 0, 0, 0), (23, .invokevirtual 151, 3, 131, 0, 0), (26, .ireturn, 1, 0, 0, 0)]
/-- LastAsked.cat()I -/
def xc_73 : List xCe := [(0, .aload_n 0, 1, 0, 0, 0), (1, .aload_n 0, 1, 0, 0, 0), (2, .invokevirtual 154, 3, 115, 0, 0), (5, .ifCond .eq 7, 3, 12, 0, 0), (8, .iconst 0, 1, 0, 0, 0), (9, .goto 4, 3, 13, 0, 0), (12, .iconst 1, 1, 0, 1, 0), (13, .invokevirtual 75, 3, 114, 0, 0), (16, .ifCond .eq 5, 3, 21, 0, 0), (19, .iconst (-1), 1, 0, (-1), 0), (20, .ireturn, 1, 0, 0, 0), (21, .aload_n 0, 1, 0, 0, 0), (22, .getfield 26, 3, 702, 0, 0), (25, .getfield 158, 3, 403, 0, 0), (28, .ireturn, 1, 0, 0, 0)]
/-- LastAsked.richest()I -/
def xc_74 : List xCe := [(0, .aload_n 0, 1, 0, 0, 0), (1, .aload_n 0, 1, 0, 0, 0), (2, .invokevirtual 154, 3, 115, 0, 0), (5, .ifCond .eq 7, 3, 12, 0, 0), (8, .iconst 0, 1, 0, 0, 0), (9, .goto 4, 3, 13, 0, 0), (12, .iconst 1, 1, 0, 1, 0), (13, .invokevirtual 75, 3, 114, 0, 0), (16, .ifCond .eq 5, 3, 21, 0, 0), (19, .iconst (-1), 1, 0, (-1), 0), (20, .ireturn, 1, 0, 0, 0), (21, .aload_n 0, 1, 0, 0, 0), (22, .aload_n 0, 1, 0, 0, 0), (23, .getfield 26, 3, 702, 0, 0), (26, .getfield 161, 3, 404, 0, 0), (29, .invokevirtual 164, 3, 128, 0, 0), (32, .ireturn, 1, 0, 0, 0)]
/-- LastAsked.goesTo(II)I -/
def xc_75 : List xCe := [(0, .aload_n 0, 1, 0, 0, 0), (1, .aload_n 0, 1, 0, 0, 0), (2, .iload_n 1, 1, 0, 0, 0), (3, .invokevirtual 102, 3, 116, 0, 0), (6, .ifCond .ne 7, 3, 13, 0, 0), (9, .iconst 1, 1, 0, 1, 0), (10, .goto 24, 3, 34, 0, 0), (13, .aload_n 0, 1, 0, 0, 0), (14, .iload_n 2, 1, 0, 0, 0), (15, .invokevirtual 167, 3, 118, 0, 0), (18, .ifCond .eq 15, 3, 33, 0, 0), (21, .iload_n 2, 1, 0, 0, 0), (22, .iload_n 1, 1, 0, 0, 0), (23, .invokestatic 170, 3, 124, 0, 0), (26, .ifCond .eq 7, 3, 33, 0, 0), (29, .iconst 0, 1, 0, 0, 0), (30, .goto 4, 3, 34, 0, 0), (33, .iconst 2, 1, 0, 2, 0), (34, .invokevirtual 75, 3, 114, 0, 0), (37, .ifCond .eq 5, 3, 42, 0, 0), (40, .iconst (-1), 1, 0, (-1), 0), (41, .ireturn, 1, 0, 0, 0), (42, .aload_n 0, 1, 0, 0, 0), (43, .invokevirtual 141, 3, 129, 0, 0), (46, .iload_n 1, 1, 0, 0, 0), (47, .iload_n 2, 1, 0, 0, 0), (48, .invokevirtual 173, 3, 59, 0, 0), (51, .ireturn, 1, 0, 0, 0)]
/-- LastAsked.hasThen(II)I -/
def xc_76 : List xCe := [(0, .aload_n 0, 1, 0, 0, 0), (1, .iload_n 1, 1, 0, 0, 0), (2, .invokevirtual 138, 3, 119, 0, 0), (5, .istore_n 3, 1, 0, 0, 0), (6, .aload_n 0, 1, 0, 0, 0), (7, .iload_n 3, 1, 0, 0, 0), (8, .ifCond .eq 7, 3, 15, 0, 0), (11, .iload_n 3, 1, 0, 0, 0), (12, .goto 16, 3, 28, 0, 0), (15, .aload_n 0, 1, 0, 0, 0), (16, .iload_n 2, 1, 0, 0, 0), (17, .invokevirtual 167, 3, 118, 0, 0), (20, .ifCond .eq 7, 3, 27, 0, 0), (23, .iconst 0, 1, 0, 0, 0), (24, .goto 4, 3, 28, 0, 0), (27, .iconst 2, 1, 0, 2, 0), (28, .invokevirtual 75, 3, 114, 0, 0), (31, .ifCond .eq 5, 3, 36, 0, 0), (34, .iconst (-1), 1, 0, (-1), 0), (35, .ireturn, 1, 0, 0, 0), (36, .aload_n 0, 1, 0, 0, 0), (37, .invokevirtual 141, 3, 129, 0, 0), (40, .pop, 1, 0, 0, 0), (41, .aload_n 0, 1, 0, 0, 0), (42, .iload_n 1, 1, 0, 0, 0), (43, .iload_n 2, 1, 0, 0, 0), (44, .invokevirtual 151, 3, 131, 0, 0), (47, .ireturn, 1, 0, 0, 0)]
/-- LastAsked.catThen(I)I -/
def xc_77 : List xCe := [(0, .aload_n 0, 1, 0, 0, 0), (1, .aload_n 0, 1, 0, 0, 0), (2, .invokevirtual 154, 3, 115, 0, 0), (5, .ifCond .ne 7, 3, 12, 0, 0), (8, .iconst 1, 1, 0, 1, 0), (9, .goto 16, 3, 25, 0, 0), (12, .aload_n 0, 1, 0, 0, 0), (13, .iload_n 1, 1, 0, 0, 0), (14, .invokevirtual 167, 3, 118, 0, 0), (17, .ifCond .eq 7, 3, 24, 0, 0), (20, .iconst 0, 1, 0, 0, 0), (21, .goto 4, 3, 25, 0, 0), (24, .iconst 2, 1, 0, 2, 0), (25, .invokevirtual 75, 3, 114, 0, 0), (28, .ifCond .eq 5, 3, 33, 0, 0), (31, .iconst (-1), 1, 0, (-1), 0), (32, .ireturn, 1, 0, 0, 0), (33, .aload_n 0, 1, 0, 0, 0), (34, .invokevirtual 141, 3, 129, 0, 0), (37, .pop, 1, 0, 0, 0), (38, .iconst 0, 1, 0, 0, 0), (39, .istore_n 2, 1, 0, 0, 0), (40, .iconst 0, 1, 0, 0, 0), (41, .istore_n 3, 1, 0, 0, 0), (42, .iload_n 3, 1, 0, 0, 0), (43, .bipush 6, 2, 0, 6, 0), (45, .if_icmp .ge 43, 3, 88, 0, 0), (48, .iload_n 1, 1, 0, 0, 0), (49, .iload_n 3, 1, 0, 0, 0), (50, .invokestatic 170, 3, 124, 0, 0), (53, .ifCond .eq 29, 3, 82, 0, 0), (56, .aload_n 0, 1, 0, 0, 0), (57, .getfield 43, 3, 705, 0, 0), (60, .iload_n 3, 1, 0, 0, 0), (61, .iload_n 1, 1, 0, 0, 0), (62, .invokevirtual 173, 3, 59, 0, 0), (65, .bipush (-2), 2, 0, (-2), 0), (67, .if_icmp .ne 15, 3, 82, 0, 0), (70, .iload_n 2, 1, 0, 0, 0), (71, .aload_n 0, 1, 0, 0, 0), (72, .getfield 26, 3, 702, 0, 0), (75, .getfield 109, 3, 405, 0, 0), (78, .iload_n 3, 1, 0, 0, 0), (79, .iaload, 1, 0, 0, 0), (80, .iadd, 1, 0, 0, 0), (81, .istore_n 2, 1, 0, 0, 0), (82, .iinc 3 1, 3, 0, 1, 0), (85, .goto (-43), 3, 42, 0, 0), (88, .iload_n 2, 1, 0, 0, 0), (89, .ireturn, 1, 0, 0, 0)]
/-- LastAsked.rounds()I -/
def xc_78 : List xCe := [(0, .aload_n 0, 1, 0, 0, 0), (1, .aload_n 0, 1, 0, 0, 0), (2, .invokevirtual 154, 3, 115, 0, 0), (5, .ifCond .eq 7, 3, 12, 0, 0), (8, .iconst 0, 1, 0, 0, 0), (9, .goto 4, 3, 13, 0, 0), (12, .iconst 1, 1, 0, 1, 0), (13, .invokevirtual 75, 3, 114, 0, 0), (16, .ifCond .eq 5, 3, 21, 0, 0), (19, .iconst (-1), 1, 0, (-1), 0), (20, .ireturn, 1, 0, 0, 0), (21, .aload_n 0, 1, 0, 0, 0), (22, .invokevirtual 141, 3, 129, 0, 0), (25, .pop, 1, 0, 0, 0), (26, .iconst 0, 1, 0, 0, 0), (27, .istore_n 1, 1, 0, 0, 0), (28, .iconst 0, 1, 0, 0, 0), (29, .istore_n 2, 1, 0, 0, 0), (30, .iload_n 2, 1, 0, 0, 0), (31, .bipush 6, 2, 0, 6, 0), (33, .if_icmp .ge 37, 3, 70, 0, 0), (36, .aload_n 0, 1, 0, 0, 0), (37, .getfield 26, 3, 702, 0, 0), (40, .iload_n 2, 1, 0, 0, 0), (41, .invokevirtual 115, 3, 48, 0, 0), (44, .ifCond .eq 20, 3, 64, 0, 0), (47, .aload_n 0, 1, 0, 0, 0), (48, .getfield 43, 3, 705, 0, 0), (51, .iload_n 2, 1, 0, 0, 0), (52, .invokevirtual 176, 3, 62, 0, 0), (55, .ifCond .eq 9, 3, 64, 0, 0), (58, .iload_n 1, 1, 0, 0, 0), (59, .iconst 1, 1, 0, 1, 0), (60, .iload_n 2, 1, 0, 0, 0), (61, .ishl, 1, 0, 0, 0), (62, .ior, 1, 0, 0, 0), (63, .istore_n 1, 1, 0, 0, 0), (64, .iinc 2 1, 3, 0, 1, 0), (67, .goto (-37), 3, 30, 0, 0), (70, .iload_n 1, 1, 0, 0, 0), (71, .ireturn, 1, 0, 0, 0)]
/-- LastAsked.worthiest()I -/
def xc_79 : List xCe := [(0, .aload_n 0, 1, 0, 0, 0), (1, .aload_n 0, 1, 0, 0, 0), (2, .invokevirtual 154, 3, 115, 0, 0), (5, .ifCond .eq 7, 3, 12, 0, 0), (8, .iconst 0, 1, 0, 0, 0), (9, .goto 4, 3, 13, 0, 0), (12, .iconst 1, 1, 0, 1, 0), (13, .invokevirtual 75, 3, 114, 0, 0), (16, .ifCond .eq 5, 3, 21, 0, 0), (19, .iconst (-1), 1, 0, (-1), 0), (20, .ireturn, 1, 0, 0, 0), (21, .aload_n 0, 1, 0, 0, 0), (22, .invokevirtual 141, 3, 129, 0, 0), (25, .pop, 1, 0, 0, 0), (26, .bipush (-2), 2, 0, (-2), 0), (28, .istore_n 1, 1, 0, 0, 0), (29, .iconst 0, 1, 0, 0, 0), (30, .istore_n 2, 1, 0, 0, 0), (31, .iconst 0, 1, 0, 0, 0), (32, .istore_n 3, 1, 0, 0, 0), (33, .iload_n 3, 1, 0, 0, 0), (34, .bipush 6, 2, 0, 6, 0), (36, .if_icmp .ge 59, 3, 95, 0, 0), (39, .aload_n 0, 1, 0, 0, 0), (40, .getfield 26, 3, 702, 0, 0), (43, .iload_n 3, 1, 0, 0, 0), (44, .invokevirtual 115, 3, 48, 0, 0), (47, .ifCond .eq 42, 3, 89, 0, 0), (50, .aload_n 0, 1, 0, 0, 0), (51, .getfield 43, 3, 705, 0, 0), (54, .getfield 145, 3, 600, 0, 0), (57, .iload_n 3, 1, 0, 0, 0), (58, .iaload, 1, 0, 0, 0), (59, .bipush (-2), 2, 0, (-2), 0), (61, .if_icmp .eq 28, 3, 89, 0, 0), (64, .aload_n 0, 1, 0, 0, 0), (65, .getfield 26, 3, 702, 0, 0), (68, .getfield 109, 3, 405, 0, 0), (71, .iload_n 3, 1, 0, 0, 0), (72, .iaload, 1, 0, 0, 0), (73, .iload_n 2, 1, 0, 0, 0), (74, .if_icmp .le 15, 3, 89, 0, 0), (77, .iload_n 3, 1, 0, 0, 0), (78, .istore_n 1, 1, 0, 0, 0), (79, .aload_n 0, 1, 0, 0, 0), (80, .getfield 26, 3, 702, 0, 0), (83, .getfield 109, 3, 405, 0, 0), (86, .iload_n 3, 1, 0, 0, 0), (87, .iaload, 1, 0, 0, 0), (88, .istore_n 2, 1, 0, 0, 0), (89, .iinc 3 1, 3, 0, 1, 0), (92, .goto (-59), 3, 33, 0, 0), (95, .iload_n 1, 1, 0, 0, 0), (96, .ireturn, 1, 0, 0, 0)]
/-- LastAsked.plot(II)I -/
def xc_80 : List xCe := [(0, .aload_n 0, 1, 0, 0, 0), (1, .aload_n 0, 1, 0, 0, 0), (2, .iload_n 1, 1, 0, 0, 0), (3, .iload_n 2, 1, 0, 0, 0), (4, .invokevirtual 127, 3, 117, 0, 0), (7, .ifCond .eq 29, 3, 36, 0, 0), (10, .aload_n 0, 1, 0, 0, 0), (11, .getfield 26, 3, 702, 0, 0), (14, .iload_n 1, 1, 0, 0, 0), (15, .invokevirtual 115, 3, 48, 0, 0), (18, .ifCond .eq 18, 3, 36, 0, 0), (21, .aload_n 0, 1, 0, 0, 0), (22, .getfield 26, 3, 702, 0, 0), (25, .iload_n 2, 1, 0, 0, 0), (26, .invokevirtual 115, 3, 48, 0, 0), (29, .ifCond .eq 7, 3, 36, 0, 0), (32, .iconst 0, 1, 0, 0, 0), (33, .goto 4, 3, 37, 0, 0), (36, .iconst 1, 1, 0, 1, 0), (37, .invokevirtual 75, 3, 114, 0, 0), (40, .ifCond .eq 5, 3, 45, 0, 0), (43, .iconst (-1), 1, 0, (-1), 0), (44, .ireturn, 1, 0, 0, 0), (45, .aload_n 0, 1, 0, 0, 0), (46, .invokevirtual 141, 3, 129, 0, 0), (49, .iload_n 1, 1, 0, 0, 0), (50, .iload_n 2, 1, 0, 0, 0), (51, .invokevirtual 179, 3, 60, 0, 0), (54, .istore_n 3, 1, 0, 0, 0), (55, .iload_n 3, 1, 0, 0, 0), (56, .iconst (-1), 1, 0, (-1), 0), (57, .if_icmp .ne 8, 3, 65, 0, 0), (60, .bipush (-2), 2, 0, (-2), 0), (62, .goto 4, 3, 66, 0, 0), (65, .iload_n 3, 1, 0, 0, 0), (66, .ireturn, 1, 0, 0, 0)]
/-- LastAsked.mean(IZ)J -/
def xc_81 : List xCe := [(0, .aload_n 0, 1, 0, 0, 0), (1, .aload_n 0, 1, 0, 0, 0), (2, .iload_n 1, 1, 0, 0, 0), (3, .invokevirtual 102, 3, 116, 0, 0), (6, .ifCond .eq 7, 3, 13, 0, 0), (9, .iconst 0, 1, 0, 0, 0), (10, .goto 4, 3, 14, 0, 0), (13, .iconst 1, 1, 0, 1, 0), (14, .invokevirtual 75, 3, 114, 0, 0), (17, .ifCond .eq 7, 3, 24, 0, 0), (20, .ldc2_w 182, 3, 0, 0, (-1)), (23, .lreturn, 1, 0, 0, 0), (24, .aload_n 0, 1, 0, 0, 0), (25, .iload_n 1, 1, 0, 0, 0), (26, .aload_n 0, 1, 0, 0, 0), (27, .getfield 26, 3, 702, 0, 0), (30, .invokevirtual 184, 3, 133, 0, 0), (33, .iload_n 2, 1, 0, 0, 0), (34, .invokestatic 188, 3, 135, 0, 0), (37, .lreturn, 1, 0, 0, 0)]
/-- LastAsked.odds(IIZ)J -/
def xc_82 : List xCe := [(0, .iload_n 2, 1, 0, 0, 0), (1, .ifCond .lt 14, 3, 15, 0, 0), (4, .iload_n 2, 1, 0, 0, 0), (5, .sipush 594, 3, 0, 594, 0), (8, .if_icmp .gt 7, 3, 15, 0, 0), (11, .iconst 1, 1, 0, 1, 0), (12, .goto 4, 3, 16, 0, 0), (15, .iconst 0, 1, 0, 0, 0), (16, .istore 4, 2, 0, 0, 0), (18, .aload_n 0, 1, 0, 0, 0), (19, .aload_n 0, 1, 0, 0, 0), (20, .iload_n 1, 1, 0, 0, 0), (21, .invokevirtual 102, 3, 116, 0, 0), (24, .ifCond .ne 7, 3, 31, 0, 0), (27, .iconst 1, 1, 0, 1, 0), (28, .goto 13, 3, 41, 0, 0), (31, .iload 4, 2, 0, 0, 0), (33, .ifCond .eq 7, 3, 40, 0, 0), (36, .iconst 0, 1, 0, 0, 0), (37, .goto 4, 3, 41, 0, 0), (40, .iconst 2, 1, 0, 2, 0), (41, .invokevirtual 75, 3, 114, 0, 0), (44, .ifCond .eq 7, 3, 51, 0, 0), (47, .ldc2_w 182, 3, 0, 0, (-1)), (50, .lreturn, 1, 0, 0, 0), (51, .aload_n 0, 1, 0, 0, 0), (52, .iload_n 1, 1, 0, 0, 0), (53, .iload_n 2, 1, 0, 0, 0), (54, .invokevirtual 192, 3, 134, 0, 0), (57, .iload_n 3, 1, 0, 0, 0), (58, .invokestatic 188, 3, 135, 0, 0), (61, .lreturn, 1, 0, 0, 0)]
/-- LastAsked.passes(IIZ)J -/
def xc_83 : List xCe := [(0, .aload_n 0, 1, 0, 0, 0), (1, .aload_n 0, 1, 0, 0, 0), (2, .iload_n 1, 1, 0, 0, 0), (3, .iload_n 2, 1, 0, 0, 0), (4, .invokevirtual 127, 3, 117, 0, 0), (7, .ifCond .eq 7, 3, 14, 0, 0), (10, .iconst 0, 1, 0, 0, 0), (11, .goto 4, 3, 15, 0, 0), (14, .iconst 1, 1, 0, 1, 0), (15, .invokevirtual 75, 3, 114, 0, 0), (18, .ifCond .eq 7, 3, 25, 0, 0), (21, .ldc2_w 182, 3, 0, 0, (-1)), (24, .lreturn, 1, 0, 0, 0), (25, .aload_n 0, 1, 0, 0, 0), (26, .invokevirtual 141, 3, 129, 0, 0), (29, .iload_n 1, 1, 0, 0, 0), (30, .iload_n 2, 1, 0, 0, 0), (31, .invokevirtual 179, 3, 60, 0, 0), (34, .istore 4, 2, 0, 0, 0), (36, .iload 4, 2, 0, 0, 0), (38, .iconst (-1), 1, 0, (-1), 0), (39, .if_icmp .ne 7, 3, 46, 0, 0), (42, .lconst 0, 1, 0, 0, 0), (43, .goto 12, 3, 55, 0, 0), (46, .aload_n 0, 1, 0, 0, 0), (47, .iload 4, 2, 0, 0, 0), (49, .iconst 1, 1, 0, 1, 0), (50, .iload_n 2, 1, 0, 0, 0), (51, .ishl, 1, 0, 0, 0), (52, .invokevirtual 196, 3, 132, 0, 0), (55, .iload_n 3, 1, 0, 0, 0), (56, .invokestatic 188, 3, 135, 0, 0), (59, .lreturn, 1, 0, 0, 0)]
/-- LastAsked.catMean(Z)J -/
def xc_84 : List xCe := [(0, .aload_n 0, 1, 0, 0, 0), (1, .aload_n 0, 1, 0, 0, 0), (2, .invokevirtual 154, 3, 115, 0, 0), (5, .ifCond .eq 7, 3, 12, 0, 0), (8, .iconst 0, 1, 0, 0, 0), (9, .goto 4, 3, 13, 0, 0), (12, .iconst 1, 1, 0, 1, 0), (13, .invokevirtual 75, 3, 114, 0, 0), (16, .ifCond .eq 7, 3, 23, 0, 0), (19, .ldc2_w 182, 3, 0, 0, (-1)), (22, .lreturn, 1, 0, 0, 0), (23, .aload_n 0, 1, 0, 0, 0), (24, .invokevirtual 141, 3, 129, 0, 0), (27, .pop, 1, 0, 0, 0), (28, .lconst 0, 1, 0, 0, 0), (29, .lstore_n 2, 1, 0, 0, 0), (30, .iconst 0, 1, 0, 0, 0), (31, .istore 4, 2, 0, 0, 0), (33, .iload 4, 2, 0, 0, 0), (35, .bipush 6, 2, 0, 6, 0), (37, .if_icmp .ge 50, 3, 87, 0, 0), (40, .aload_n 0, 1, 0, 0, 0), (41, .getfield 26, 3, 702, 0, 0), (44, .iload 4, 2, 0, 0, 0), (46, .invokevirtual 115, 3, 48, 0, 0), (49, .ifCond .eq 32, 3, 81, 0, 0), (52, .lload_n 2, 1, 0, 0, 0), (53, .aload_n 0, 1, 0, 0, 0), (54, .getfield 26, 3, 702, 0, 0), (57, .getfield 109, 3, 405, 0, 0), (60, .iload 4, 2, 0, 0, 0), (62, .iaload, 1, 0, 0, 0), (63, .i2l, 1, 0, 0, 0), (64, .aload_n 0, 1, 0, 0, 0), (65, .aload_n 0, 1, 0, 0, 0), (66, .getfield 43, 3, 705, 0, 0), (69, .iload 4, 2, 0, 0, 0), (71, .invokevirtual 199, 3, 61, 0, 0), (74, .iconst 0, 1, 0, 0, 0), (75, .invokevirtual 196, 3, 132, 0, 0), (78, .lmul, 1, 0, 0, 0), (79, .ladd, 1, 0, 0, 0), (80, .lstore_n 2, 1, 0, 0, 0), (81, .iinc 4 1, 3, 0, 1, 0), (84, .goto (-51), 3, 33, 0, 0), (87, .lload_n 2, 1, 0, 0, 0), (88, .iload_n 1, 1, 0, 0, 0), (89, .invokestatic 188, 3, 135, 0, 0), (92, .lreturn, 1, 0, 0, 0)]
/-- LastAsked.best(II)I -/
def xc_85 : List xCe := [(0, .aload_n 0, 1, 0, 0, 0), (1, .aload_n 0, 1, 0, 0, 0), (2, .iload_n 1, 1, 0, 0, 0), (3, .iload_n 2, 1, 0, 0, 0), (4, .iconst 1, 1, 0, 1, 0), (5, .if_icmp .lt 12, 3, 17, 0, 0), (8, .iload_n 2, 1, 0, 0, 0), (9, .iconst 3, 1, 0, 3, 0), (10, .if_icmp .gt 7, 3, 17, 0, 0), (13, .iconst 1, 1, 0, 1, 0), (14, .goto 4, 3, 18, 0, 0), (17, .iconst 0, 1, 0, 0, 0), (18, .invokevirtual 202, 3, 120, 0, 0), (21, .invokevirtual 75, 3, 114, 0, 0), (24, .ifCond .eq 5, 3, 29, 0, 0), (27, .iconst (-1), 1, 0, (-1), 0), (28, .ireturn, 1, 0, 0, 0), (29, .aload_n 0, 1, 0, 0, 0), (30, .iload_n 1, 1, 0, 0, 0), (31, .iload_n 2, 1, 0, 0, 0), (32, .invokevirtual 206, 3, 137, 0, 0), (35, .ireturn, 1, 0, 0, 0)]
/-- LastAsked.bestMean(IIZ)J -/
def xc_86 : List xCe := [(0, .aload_n 0, 1, 0, 0, 0), (1, .aload_n 0, 1, 0, 0, 0), (2, .iload_n 1, 1, 0, 0, 0), (3, .iload_n 2, 1, 0, 0, 0), (4, .iconst 1, 1, 0, 1, 0), (5, .if_icmp .lt 12, 3, 17, 0, 0), (8, .iload_n 2, 1, 0, 0, 0), (9, .iconst 3, 1, 0, 3, 0), (10, .if_icmp .gt 7, 3, 17, 0, 0), (13, .iconst 1, 1, 0, 1, 0), (14, .goto 4, 3, 18, 0, 0), (17, .iconst 0, 1, 0, 0, 0), (18, .invokevirtual 202, 3, 120, 0, 0), (21, .invokevirtual 75, 3, 114, 0, 0), (24, .ifCond .eq 7, 3, 31, 0, 0), (27, .ldc2_w 182, 3, 0, 0, (-1)), (30, .lreturn, 1, 0, 0, 0), (31, .aload_n 0, 1, 0, 0, 0), (32, .iload_n 1, 1, 0, 0, 0), (33, .aload_n 0, 1, 0, 0, 0), (34, .iload_n 1, 1, 0, 0, 0), (35, .iload_n 2, 1, 0, 0, 0), (36, .invokevirtual 206, 3, 137, 0, 0), (39, .invokevirtual 209, 3, 139, 0, 0), (42, .iload_n 3, 1, 0, 0, 0), (43, .invokestatic 188, 3, 135, 0, 0), (46, .lreturn, 1, 0, 0, 0)]
/-- LastAsked.tour(II)I -/
def xc_87 : List xCe := [(0, .aload_n 0, 1, 0, 0, 0), (1, .aload_n 0, 1, 0, 0, 0), (2, .iload_n 1, 1, 0, 0, 0), (3, .iload_n 2, 1, 0, 0, 0), (4, .ifCond .lt 13, 3, 17, 0, 0), (7, .iload_n 2, 1, 0, 0, 0), (8, .bipush 12, 2, 0, 12, 0), (10, .if_icmp .gt 7, 3, 17, 0, 0), (13, .iconst 1, 1, 0, 1, 0), (14, .goto 4, 3, 18, 0, 0), (17, .iconst 0, 1, 0, 0, 0), (18, .invokevirtual 202, 3, 120, 0, 0), (21, .invokevirtual 75, 3, 114, 0, 0), (24, .ifCond .eq 5, 3, 29, 0, 0), (27, .iconst (-1), 1, 0, (-1), 0), (28, .ireturn, 1, 0, 0, 0), (29, .aload_n 0, 1, 0, 0, 0), (30, .iload_n 1, 1, 0, 0, 0), (31, .iload_n 2, 1, 0, 0, 0), (32, .invokevirtual 212, 3, 140, 0, 0), (35, .ireturn, 1, 0, 0, 0)]
/-- LastAsked.tourHours(II)I -/
def xc_88 : List xCe := [(0, .aload_n 0, 1, 0, 0, 0), (1, .aload_n 0, 1, 0, 0, 0), (2, .iload_n 1, 1, 0, 0, 0), (3, .iload_n 2, 1, 0, 0, 0), (4, .ifCond .lt 13, 3, 17, 0, 0), (7, .iload_n 2, 1, 0, 0, 0), (8, .bipush 12, 2, 0, 12, 0), (10, .if_icmp .gt 7, 3, 17, 0, 0), (13, .iconst 1, 1, 0, 1, 0), (14, .goto 4, 3, 18, 0, 0), (17, .iconst 0, 1, 0, 0, 0), (18, .invokevirtual 202, 3, 120, 0, 0), (21, .invokevirtual 75, 3, 114, 0, 0), (24, .ifCond .eq 5, 3, 29, 0, 0), (27, .iconst (-1), 1, 0, (-1), 0), (28, .ireturn, 1, 0, 0, 0), (29, .aload_n 0, 1, 0, 0, 0), (30, .getfield 50, 3, 706, 0, 0), (33, .aload_n 0, 1, 0, 0, 0), (34, .iload_n 1, 1, 0, 0, 0), (35, .iload_n 2, 1, 0, 0, 0), (36, .invokevirtual 212, 3, 140, 0, 0), (39, .invokevirtual 215, 3, 55, 0, 0), (42, .ireturn, 1, 0, 0, 0)]
/-- LastAsked.apart(II)I -/
def xc_89 : List xCe := [(0, .aload_n 0, 1, 0, 0, 0), (1, .aload_n 0, 1, 0, 0, 0), (2, .iload_n 1, 1, 0, 0, 0), (3, .invokevirtual 102, 3, 116, 0, 0), (6, .ifCond .eq 15, 3, 21, 0, 0), (9, .aload_n 0, 1, 0, 0, 0), (10, .iload_n 2, 1, 0, 0, 0), (11, .invokevirtual 102, 3, 116, 0, 0), (14, .ifCond .eq 7, 3, 21, 0, 0), (17, .iconst 0, 1, 0, 0, 0), (18, .goto 4, 3, 22, 0, 0), (21, .iconst 1, 1, 0, 1, 0), (22, .invokevirtual 75, 3, 114, 0, 0), (25, .ifCond .eq 5, 3, 30, 0, 0), (28, .iconst (-1), 1, 0, (-1), 0), (29, .ireturn, 1, 0, 0, 0), (30, .aload_n 0, 1, 0, 0, 0), (31, .getfield 19, 3, 701, 0, 0), (34, .getfield 218, 3, 13, 0, 0), (37, .iload_n 1, 1, 0, 0, 0), (38, .iload_n 2, 1, 0, 0, 0), (39, .invokestatic 134, 3, 125, 0, 0), (42, .iaload, 1, 0, 0, 0), (43, .istore_n 3, 1, 0, 0, 0), (44, .iload_n 3, 1, 0, 0, 0), (45, .sipush 1000, 3, 0, 1000, 0), (48, .if_icmp .lt 8, 3, 56, 0, 0), (51, .bipush (-2), 2, 0, (-2), 0), (53, .goto 4, 3, 57, 0, 0), (56, .iload_n 3, 1, 0, 0, 0), (57, .ireturn, 1, 0, 0, 0)]
/-- LastAsked.toAsk(I)I -/
def xc_90 : List xCe := [(0, .aload_n 0, 1, 0, 0, 0), (1, .aload_n 0, 1, 0, 0, 0), (2, .iload_n 1, 1, 0, 0, 0), (3, .invokevirtual 102, 3, 116, 0, 0), (6, .ifCond .eq 7, 3, 13, 0, 0), (9, .iconst 0, 1, 0, 0, 0), (10, .goto 4, 3, 14, 0, 0), (13, .iconst 1, 1, 0, 1, 0), (14, .invokevirtual 75, 3, 114, 0, 0), (17, .ifCond .eq 5, 3, 22, 0, 0), (20, .iconst (-1), 1, 0, (-1), 0), (21, .ireturn, 1, 0, 0, 0), (22, .aload_n 0, 1, 0, 0, 0), (23, .aload_n 0, 1, 0, 0, 0), (24, .iload_n 1, 1, 0, 0, 0), (25, .invokevirtual 121, 3, 126, 0, 0), (28, .aload_n 0, 1, 0, 0, 0), (29, .iload_n 1, 1, 0, 0, 0), (30, .invokevirtual 148, 3, 130, 0, 0), (33, .iconst (-1), 1, 0, (-1), 0), (34, .ixor, 1, 0, 0, 0), (35, .iand, 1, 0, 0, 0), (36, .invokevirtual 164, 3, 128, 0, 0), (39, .ireturn, 1, 0, 0, 0)]
/-- LastAsked.rivals(II)I -/
def xc_91 : List xCe := [(0, .aload_n 0, 1, 0, 0, 0), (1, .aload_n 0, 1, 0, 0, 0), (2, .iload_n 1, 1, 0, 0, 0), (3, .iload_n 2, 1, 0, 0, 0), (4, .invokevirtual 127, 3, 117, 0, 0), (7, .ifCond .ne 7, 3, 14, 0, 0), (10, .iconst 1, 1, 0, 1, 0), (11, .goto 19, 3, 30, 0, 0), (14, .aload_n 0, 1, 0, 0, 0), (15, .getfield 26, 3, 702, 0, 0), (18, .iload_n 2, 1, 0, 0, 0), (19, .invokevirtual 115, 3, 48, 0, 0), (22, .ifCond .eq 7, 3, 29, 0, 0), (25, .iconst 0, 1, 0, 0, 0), (26, .goto 4, 3, 30, 0, 0), (29, .iconst 5, 1, 0, 5, 0), (30, .invokevirtual 75, 3, 114, 0, 0), (33, .ifCond .eq 5, 3, 38, 0, 0), (36, .iconst (-1), 1, 0, (-1), 0), (37, .ireturn, 1, 0, 0, 0), (38, .aload_n 0, 1, 0, 0, 0), (39, .getfield 26, 3, 702, 0, 0), (42, .getfield 131, 3, 406, 0, 0), (45, .iload_n 1, 1, 0, 0, 0), (46, .iload_n 2, 1, 0, 0, 0), (47, .invokestatic 134, 3, 125, 0, 0), (50, .iaload, 1, 0, 0, 0), (51, .istore_n 3, 1, 0, 0, 0), (52, .aload_n 0, 1, 0, 0, 0), (53, .getfield 26, 3, 702, 0, 0), (56, .iload_n 1, 1, 0, 0, 0), (57, .invokevirtual 115, 3, 48, 0, 0), (60, .ifCond .eq 9, 3, 69, 0, 0), (63, .iload_n 3, 1, 0, 0, 0), (64, .bipush (-2), 2, 0, (-2), 0), (66, .if_icmp .ne 6, 3, 72, 0, 0), (69, .bipush (-2), 2, 0, (-2), 0), (71, .ireturn, 1, 0, 0, 0), (72, .iconst 0, 1, 0, 0, 0), (73, .istore 4, 2, 0, 0, 0), (75, .iconst 0, 1, 0, 0, 0), (76, .istore 5, 2, 0, 0, 0), (78, .iload 5, 2, 0, 0, 0), (80, .bipush 6, 2, 0, 6, 0), (82, .if_icmp .ge 70, 3, 152, 0, 0), (85, .aload_n 0, 1, 0, 0, 0), (86, .getfield 26, 3, 702, 0, 0), (89, .getfield 131, 3, 406, 0, 0), (92, .iload 5, 2, 0, 0, 0), (94, .iload_n 2, 1, 0, 0, 0), (95, .invokestatic 134, 3, 125, 0, 0), (98, .iaload, 1, 0, 0, 0), (99, .istore 6, 2, 0, 0, 0), (101, .iload 5, 2, 0, 0, 0), (103, .iload_n 1, 1, 0, 0, 0), (104, .if_icmp .eq 42, 3, 146, 0, 0), (107, .aload_n 0, 1, 0, 0, 0), (108, .getfield 26, 3, 702, 0, 0), (111, .iload 5, 2, 0, 0, 0), (113, .invokevirtual 115, 3, 48, 0, 0), (116, .ifCond .eq 30, 3, 146, 0, 0), (119, .iload 6, 2, 0, 0, 0), (121, .iload_n 3, 1, 0, 0, 0), (122, .if_icmp .gt 15, 3, 137, 0, 0), (125, .iload 6, 2, 0, 0, 0), (127, .iload_n 3, 1, 0, 0, 0), (128, .if_icmp .ne 18, 3, 146, 0, 0), (131, .iload 5, 2, 0, 0, 0), (133, .iload_n 1, 1, 0, 0, 0), (134, .if_icmp .ge 12, 3, 146, 0, 0), (137, .iload 4, 2, 0, 0, 0), (139, .iconst 1, 1, 0, 1, 0), (140, .iload 5, 2, 0, 0, 0), (142, .ishl, 1, 0, 0, 0), (143, .ior, 1, 0, 0, 0), (144, .istore 4, 2, 0, 0, 0), (146, .iinc 5 1, 3, 0, 1, 0), (149, .goto (-71), 3, 78, 0, 0), (152, .iload 4, 2, 0, 0, 0), (154, .ireturn, 1, 0, 0, 0)]
/-- LastAsked.fits()I -/
def xc_92 : List xCe := [(0, .aload_n 0, 1, 0, 0, 0), (1, .aload_n 0, 1, 0, 0, 0), (2, .invokevirtual 154, 3, 115, 0, 0), (5, .ifCond .eq 7, 3, 12, 0, 0), (8, .iconst 0, 1, 0, 0, 0), (9, .goto 4, 3, 13, 0, 0), (12, .iconst 1, 1, 0, 1, 0), (13, .invokevirtual 75, 3, 114, 0, 0), (16, .ifCond .eq 5, 3, 21, 0, 0), (19, .iconst (-1), 1, 0, (-1), 0), (20, .ireturn, 1, 0, 0, 0), (21, .aload_n 0, 1, 0, 0, 0), (22, .getfield 57, 3, 707, 0, 0), (25, .aload_n 0, 1, 0, 0, 0), (26, .getfield 19, 3, 701, 0, 0), (29, .invokevirtual 221, 3, 10, 0, 0), (32, .ireturn, 1, 0, 0, 0)]
/-- LastAsked.fitAt(II)I -/
def xc_93 : List xCe := [(0, .aload_n 0, 1, 0, 0, 0), (1, .aload_n 0, 1, 0, 0, 0), (2, .invokevirtual 154, 3, 115, 0, 0), (5, .ifCond .eq 26, 3, 31, 0, 0), (8, .iload_n 1, 1, 0, 0, 0), (9, .ifCond .lt 22, 3, 31, 0, 0), (12, .iload_n 2, 1, 0, 0, 0), (13, .ifCond .lt 18, 3, 31, 0, 0), (16, .iload_n 2, 1, 0, 0, 0), (17, .aload_n 0, 1, 0, 0, 0), (18, .getfield 19, 3, 701, 0, 0), (21, .getfield 225, 3, 5, 0, 0), (24, .if_icmp .ge 7, 3, 31, 0, 0), (27, .iconst 0, 1, 0, 0, 0), (28, .goto 4, 3, 32, 0, 0), (31, .iconst 1, 1, 0, 1, 0), (32, .invokevirtual 75, 3, 114, 0, 0), (35, .ifCond .eq 5, 3, 40, 0, 0), (38, .iconst (-1), 1, 0, (-1), 0), (39, .ireturn, 1, 0, 0, 0), (40, .aload_n 0, 1, 0, 0, 0), (41, .getfield 57, 3, 707, 0, 0), (44, .aload_n 0, 1, 0, 0, 0), (45, .getfield 19, 3, 701, 0, 0), (48, .iload_n 1, 1, 0, 0, 0), (49, .invokevirtual 228, 3, 11, 0, 0), (52, .istore_n 3, 1, 0, 0, 0), (53, .aload_n 0, 1, 0, 0, 0), (54, .iload_n 3, 1, 0, 0, 0), (55, .iconst (-1), 1, 0, (-1), 0), (56, .if_icmp .ne 7, 3, 63, 0, 0), (59, .iconst 1, 1, 0, 1, 0), (60, .goto 4, 3, 64, 0, 0), (63, .iconst 0, 1, 0, 0, 0), (64, .invokevirtual 75, 3, 114, 0, 0), (67, .ifCond .eq 5, 3, 72, 0, 0), (70, .iconst (-1), 1, 0, (-1), 0), (71, .ireturn, 1, 0, 0, 0), (72, .aload_n 0, 1, 0, 0, 0), (73, .getfield 57, 3, 707, 0, 0), (76, .iload_n 3, 1, 0, 0, 0), (77, .iload_n 2, 1, 0, 0, 0), (78, .invokevirtual 232, 3, 8, 0, 0), (81, .ireturn, 1, 0, 0, 0)]
/-- LastAsked.heirBy(II)I -/
def xc_94 : List xCe := [(0, .aload_n 0, 1, 0, 0, 0), (1, .aload_n 0, 1, 0, 0, 0), (2, .iload_n 1, 1, 0, 0, 0), (3, .iload_n 2, 1, 0, 0, 0), (4, .invokevirtual 127, 3, 117, 0, 0), (7, .ifCond .eq 7, 3, 14, 0, 0), (10, .iconst 0, 1, 0, 0, 0), (11, .goto 4, 3, 15, 0, 0), (14, .iconst 1, 1, 0, 1, 0), (15, .invokevirtual 75, 3, 114, 0, 0), (18, .ifCond .eq 5, 3, 23, 0, 0), (21, .iconst (-1), 1, 0, (-1), 0), (22, .ireturn, 1, 0, 0, 0), (23, .aload_n 0, 1, 0, 0, 0), (24, .getfield 57, 3, 707, 0, 0), (27, .aload_n 0, 1, 0, 0, 0), (28, .getfield 19, 3, 701, 0, 0), (31, .iload_n 1, 1, 0, 0, 0), (32, .iload_n 2, 1, 0, 0, 0), (33, .invokevirtual 235, 3, 12, 0, 0), (36, .ireturn, 1, 0, 0, 0)]
/-- LastAsked.look()I -/
def xc_95 : List xCe := [(0, .aload_n 0, 1, 0, 0, 0), (1, .aload_n 0, 1, 0, 0, 0), (2, .invokevirtual 154, 3, 115, 0, 0), (5, .ifCond .eq 7, 3, 12, 0, 0), (8, .iconst 0, 1, 0, 0, 0), (9, .goto 4, 3, 13, 0, 0), (12, .iconst 1, 1, 0, 1, 0), (13, .invokevirtual 75, 3, 114, 0, 0), (16, .ifCond .eq 5, 3, 21, 0, 0), (19, .iconst (-1), 1, 0, (-1), 0), (20, .ireturn, 1, 0, 0, 0), (21, .aload_n 0, 1, 0, 0, 0), (22, .getfield 57, 3, 707, 0, 0), (25, .aload_n 0, 1, 0, 0, 0), (26, .getfield 19, 3, 701, 0, 0), (29, .invokevirtual 239, 3, 13, 0, 0), (32, .ireturn, 1, 0, 0, 0)]
/-- LastAsked.lookLeaves()I -/
def xc_96 : List xCe := [(0, .aload_n 0, 1, 0, 0, 0), (1, .aload_n 0, 1, 0, 0, 0), (2, .invokevirtual 154, 3, 115, 0, 0), (5, .ifCond .eq 7, 3, 12, 0, 0), (8, .iconst 0, 1, 0, 0, 0), (9, .goto 4, 3, 13, 0, 0), (12, .iconst 1, 1, 0, 1, 0), (13, .invokevirtual 75, 3, 114, 0, 0), (16, .ifCond .eq 5, 3, 21, 0, 0), (19, .iconst (-1), 1, 0, (-1), 0), (20, .ireturn, 1, 0, 0, 0), (21, .aload_n 0, 1, 0, 0, 0), (22, .getfield 57, 3, 707, 0, 0), (25, .aload_n 0, 1, 0, 0, 0), (26, .getfield 19, 3, 701, 0, 0), (29, .invokevirtual 239, 3, 13, 0, 0), (32, .istore_n 1, 1, 0, 0, 0), (33, .iload_n 1, 1, 0, 0, 0), (34, .bipush (-2), 2, 0, (-2), 0), (36, .if_icmp .ne 8, 3, 44, 0, 0), (39, .bipush (-2), 2, 0, (-2), 0), (41, .goto 11, 3, 52, 0, 0), (44, .aload_n 0, 1, 0, 0, 0), (45, .getfield 57, 3, 707, 0, 0), (48, .iload_n 1, 1, 0, 0, 0), (49, .invokevirtual 242, 3, 15, 0, 0), (52, .ireturn, 1, 0, 0, 0)]
/-- LastAsked.judge()I -/
def xc_97 : List xCe := [(0, .aload_n 0, 1, 0, 0, 0), (1, .aload_n 0, 1, 0, 0, 0), (2, .invokevirtual 154, 3, 115, 0, 0), (5, .ifCond .eq 7, 3, 12, 0, 0), (8, .iconst 0, 1, 0, 0, 0), (9, .goto 4, 3, 13, 0, 0), (12, .iconst 1, 1, 0, 1, 0), (13, .invokevirtual 75, 3, 114, 0, 0), (16, .ifCond .eq 5, 3, 21, 0, 0), (19, .iconst (-1), 1, 0, (-1), 0), (20, .ireturn, 1, 0, 0, 0), (21, .aload_n 0, 1, 0, 0, 0), (22, .getfield 43, 3, 705, 0, 0), (25, .aload_n 0, 1, 0, 0, 0), (26, .getfield 19, 3, 701, 0, 0), (29, .getfield 245, 3, 12, 0, 0), (32, .aload_n 0, 1, 0, 0, 0), (33, .getfield 19, 3, 701, 0, 0), (36, .invokevirtual 246, 3, 3, 0, 0), (39, .invokevirtual 250, 3, 57, 0, 0), (42, .iconst 0, 1, 0, 0, 0), (43, .istore_n 1, 1, 0, 0, 0), (44, .iload_n 1, 1, 0, 0, 0), (45, .bipush 6, 2, 0, 6, 0), (47, .if_icmp .ge 46, 3, 93, 0, 0), (50, .aload_n 0, 1, 0, 0, 0), (51, .getfield 19, 3, 701, 0, 0), (54, .getfield 254, 3, 11, 0, 0), (57, .iload_n 1, 1, 0, 0, 0), (58, .iaload, 1, 0, 0, 0), (59, .bipush (-3), 2, 0, (-3), 0), (61, .if_icmp .eq 26, 3, 87, 0, 0), (64, .aload_n 0, 1, 0, 0, 0), (65, .getfield 19, 3, 701, 0, 0), (68, .getfield 254, 3, 11, 0, 0), (71, .iload_n 1, 1, 0, 0, 0), (72, .iaload, 1, 0, 0, 0), (73, .aload_n 0, 1, 0, 0, 0), (74, .getfield 43, 3, 705, 0, 0), (77, .getfield 145, 3, 600, 0, 0), (80, .iload_n 1, 1, 0, 0, 0), (81, .iaload, 1, 0, 0, 0), (82, .if_icmp .eq 5, 3, 87, 0, 0), (85, .iload_n 1, 1, 0, 0, 0), (86, .ireturn, 1, 0, 0, 0), (87, .iinc 1 1, 3, 0, 1, 0), (90, .goto (-46), 3, 44, 0, 0), (93, .bipush (-2), 2, 0, (-2), 0), (95, .ireturn, 1, 0, 0, 0)]
/-- LastAsked.begs(IZZZ)I -/
def xc_98 : List xCe := [(0, .aload_n 0, 1, 0, 0, 0), (1, .aload_n 0, 1, 0, 0, 0), (2, .iload_n 1, 1, 0, 0, 0), (3, .invokevirtual 257, 3, 121, 0, 0), (6, .invokevirtual 75, 3, 114, 0, 0), (9, .ifCond .eq 6, 3, 15, 0, 0), (12, .bipush (-100), 2, 0, (-100), 0), (14, .ireturn, 1, 0, 0, 0), (15, .iload_n 1, 1, 0, 0, 0), (16, .iload_n 2, 1, 0, 0, 0), (17, .iload_n 3, 1, 0, 0, 0), (18, .iload 4, 2, 0, 0, 0), (20, .invokestatic 260, 3, 142, 0, 0), (23, .ireturn, 1, 0, 0, 0)]
/-- LastAsked.rests(I)I -/
def xc_99 : List xCe := [(0, .aload_n 0, 1, 0, 0, 0), (1, .aload_n 0, 1, 0, 0, 0), (2, .iload_n 1, 1, 0, 0, 0), (3, .invokevirtual 257, 3, 121, 0, 0), (6, .invokevirtual 75, 3, 114, 0, 0), (9, .ifCond .eq 5, 3, 14, 0, 0), (12, .iconst (-1), 1, 0, (-1), 0), (13, .ireturn, 1, 0, 0, 0), (14, .iconst 0, 1, 0, 0, 0), (15, .istore_n 2, 1, 0, 0, 0), (16, .iconst 0, 1, 0, 0, 0), (17, .istore_n 3, 1, 0, 0, 0), (18, .iload_n 3, 1, 0, 0, 0), (19, .iconst 4, 1, 0, 4, 0), (20, .if_icmp .ge 41, 3, 61, 0, 0), (23, .iload_n 1, 1, 0, 0, 0), (24, .iload_n 3, 1, 0, 0, 0), (25, .iconst 2, 1, 0, 2, 0), (26, .if_icmp .lt 7, 3, 33, 0, 0), (29, .iconst 1, 1, 0, 1, 0), (30, .goto 4, 3, 34, 0, 0), (33, .iconst 0, 1, 0, 0, 0), (34, .iload_n 3, 1, 0, 0, 0), (35, .iconst 2, 1, 0, 2, 0), (36, .irem, 1, 0, 0, 0), (37, .iconst 1, 1, 0, 1, 0), (38, .if_icmp .ne 7, 3, 45, 0, 0), (41, .iconst 1, 1, 0, 1, 0), (42, .goto 4, 3, 46, 0, 0), (45, .iconst 0, 1, 0, 0, 0), (46, .invokestatic 264, 3, 143, 0, 0), (49, .ifCond .eq 6, 3, 55, 0, 0), (52, .iinc 2 1, 3, 0, 1, 0), (55, .iinc 3 1, 3, 0, 1, 0), (58, .goto (-40), 3, 18, 0, 0), (61, .iload_n 2, 1, 0, 0, 0), (62, .ireturn, 1, 0, 0, 0)]
/-- LastAsked.rest(I)I -/
def xc_100 : List xCe := [(0, .aload_n 0, 1, 0, 0, 0), (1, .aload_n 0, 1, 0, 0, 0), (2, .iload_n 1, 1, 0, 0, 0), (3, .invokevirtual 257, 3, 121, 0, 0), (6, .invokevirtual 75, 3, 114, 0, 0), (9, .ifCond .eq 5, 3, 14, 0, 0), (12, .iconst (-1), 1, 0, (-1), 0), (13, .ireturn, 1, 0, 0, 0), (14, .iconst 0, 1, 0, 0, 0), (15, .istore_n 2, 1, 0, 0, 0), (16, .iload_n 2, 1, 0, 0, 0), (17, .iconst 4, 1, 0, 4, 0), (18, .if_icmp .ge 49, 3, 67, 0, 0), (21, .iload_n 1, 1, 0, 0, 0), (22, .iload_n 2, 1, 0, 0, 0), (23, .iconst 2, 1, 0, 2, 0), (24, .if_icmp .lt 7, 3, 31, 0, 0), (27, .iconst 1, 1, 0, 1, 0), (28, .goto 4, 3, 32, 0, 0), (31, .iconst 0, 1, 0, 0, 0), (32, .iload_n 2, 1, 0, 0, 0), (33, .iconst 2, 1, 0, 2, 0), (34, .irem, 1, 0, 0, 0), (35, .iconst 1, 1, 0, 1, 0), (36, .if_icmp .ne 7, 3, 43, 0, 0), (39, .iconst 1, 1, 0, 1, 0), (40, .goto 4, 3, 44, 0, 0), (43, .iconst 0, 1, 0, 0, 0), (44, .invokestatic 264, 3, 143, 0, 0), (47, .ifCond .eq 14, 3, 61, 0, 0), (50, .iload_n 2, 1, 0, 0, 0), (51, .iconst 2, 1, 0, 2, 0), (52, .idiv, 1, 0, 0, 0), (53, .bipush 10, 2, 0, 10, 0), (55, .imul, 1, 0, 0, 0), (56, .iload_n 2, 1, 0, 0, 0), (57, .iconst 2, 1, 0, 2, 0), (58, .irem, 1, 0, 0, 0), (59, .iadd, 1, 0, 0, 0), (60, .ireturn, 1, 0, 0, 0), (61, .iinc 2 1, 3, 0, 1, 0), (64, .goto (-48), 3, 16, 0, 0), (67, .bipush (-2), 2, 0, (-2), 0), (69, .ireturn, 1, 0, 0, 0)]
/-- LastAsked.nights(III)I -/
def xc_101 : List xCe := [(0, .aload_n 0, 1, 0, 0, 0), (1, .aload_n 0, 1, 0, 0, 0), (2, .iload_n 1, 1, 0, 0, 0), (3, .invokevirtual 102, 3, 116, 0, 0), (6, .ifCond .eq 12, 3, 18, 0, 0), (9, .aload_n 0, 1, 0, 0, 0), (10, .iload_n 2, 1, 0, 0, 0), (11, .iload_n 3, 1, 0, 0, 0), (12, .invokevirtual 268, 3, 122, 0, 0), (15, .goto 4, 3, 19, 0, 0), (18, .iconst 1, 1, 0, 1, 0), (19, .invokevirtual 75, 3, 114, 0, 0), (22, .ifCond .eq 5, 3, 27, 0, 0), (25, .iconst (-1), 1, 0, (-1), 0), (26, .ireturn, 1, 0, 0, 0), (27, .aload_n 0, 1, 0, 0, 0), (28, .iload_n 2, 1, 0, 0, 0), (29, .iload_n 3, 1, 0, 0, 0), (30, .invokevirtual 271, 3, 144, 0, 0), (33, .aload_n 0, 1, 0, 0, 0), (34, .getfield 30, 3, 703, 0, 0), (37, .getfield 109, 3, 405, 0, 0), (40, .iload_n 1, 1, 0, 0, 0), (41, .iaload, 1, 0, 0, 0), (42, .ireturn, 1, 0, 0, 0)]
/-- LastAsked.lives(II)I -/
def xc_102 : List xCe := [(0, .aload_n 0, 1, 0, 0, 0), (1, .aload_n 0, 1, 0, 0, 0), (2, .iload_n 1, 1, 0, 0, 0), (3, .iload_n 2, 1, 0, 0, 0), (4, .invokevirtual 268, 3, 122, 0, 0), (7, .invokevirtual 75, 3, 114, 0, 0), (10, .ifCond .eq 5, 3, 15, 0, 0), (13, .iconst (-1), 1, 0, (-1), 0), (14, .ireturn, 1, 0, 0, 0), (15, .aload_n 0, 1, 0, 0, 0), (16, .iload_n 1, 1, 0, 0, 0), (17, .iload_n 2, 1, 0, 0, 0), (18, .invokevirtual 271, 3, 144, 0, 0), (21, .aload_n 0, 1, 0, 0, 0), (22, .getfield 30, 3, 703, 0, 0), (25, .getfield 161, 3, 404, 0, 0), (28, .ireturn, 1, 0, 0, 0)]
/-- LastAsked.firstCat(II)I -/
def xc_103 : List xCe := [(0, .aload_n 0, 1, 0, 0, 0), (1, .aload_n 0, 1, 0, 0, 0), (2, .iload_n 1, 1, 0, 0, 0), (3, .iload_n 2, 1, 0, 0, 0), (4, .invokevirtual 268, 3, 122, 0, 0), (7, .invokevirtual 75, 3, 114, 0, 0), (10, .ifCond .eq 5, 3, 15, 0, 0), (13, .iconst (-1), 1, 0, (-1), 0), (14, .ireturn, 1, 0, 0, 0), (15, .aload_n 0, 1, 0, 0, 0), (16, .getfield 30, 3, 703, 0, 0), (19, .aload_n 0, 1, 0, 0, 0), (20, .getfield 26, 3, 702, 0, 0), (23, .invokevirtual 275, 3, 47, 0, 0), (26, .aload_n 0, 1, 0, 0, 0), (27, .getfield 30, 3, 703, 0, 0), (30, .iload_n 1, 1, 0, 0, 0), (31, .putfield 278, 3, 401, 0, 0), (34, .iconst 1, 1, 0, 1, 0), (35, .istore_n 3, 1, 0, 0, 0), (36, .iload_n 3, 1, 0, 0, 0), (37, .iload_n 2, 1, 0, 0, 0), (38, .if_icmp .gt 37, 3, 75, 0, 0), (41, .aload_n 0, 1, 0, 0, 0), (42, .aload_n 0, 1, 0, 0, 0), (43, .getfield 30, 3, 703, 0, 0), (46, .invokevirtual 281, 3, 145, 0, 0), (49, .pop, 1, 0, 0, 0), (50, .aload_n 0, 1, 0, 0, 0), (51, .getfield 30, 3, 703, 0, 0), (54, .getfield 158, 3, 403, 0, 0), (57, .aload_n 0, 1, 0, 0, 0), (58, .getfield 26, 3, 702, 0, 0), (61, .getfield 158, 3, 403, 0, 0), (64, .if_icmp .le 5, 3, 69, 0, 0), (67, .iload_n 3, 1, 0, 0, 0), (68, .ireturn, 1, 0, 0, 0), (69, .iinc 3 1, 3, 0, 1, 0), (72, .goto (-36), 3, 36, 0, 0), (75, .bipush (-2), 2, 0, (-2), 0), (77, .ireturn, 1, 0, 0, 0)]
/-- LastAsked.ask(II)I -/
def xc_104 : List xCe := [(0, .aload_n 0, 1, 0, 0, 0), (1, .aload_n 0, 1, 0, 0, 0), (2, .iload_n 1, 1, 0, 0, 0), (3, .iload_n 2, 1, 0, 0, 0), (4, .invokevirtual 285, 3, 123, 0, 0), (7, .invokevirtual 75, 3, 114, 0, 0), (10, .ifCond .eq 5, 3, 15, 0, 0), (13, .iconst (-1), 1, 0, (-1), 0), (14, .ireturn, 1, 0, 0, 0), (15, .aload_n 0, 1, 0, 0, 0), (16, .getfield 36, 3, 704, 0, 0), (19, .aload_n 0, 1, 0, 0, 0), (20, .getfield 26, 3, 702, 0, 0), (23, .invokevirtual 288, 3, 18, 0, 0), (26, .aload_n 0, 1, 0, 0, 0), (27, .getfield 26, 3, 702, 0, 0), (30, .iload_n 1, 1, 0, 0, 0), (31, .iload_n 2, 1, 0, 0, 0), (32, .aload_n 0, 1, 0, 0, 0), (33, .getfield 19, 3, 701, 0, 0), (36, .getfield 291, 3, 1, 0, 0), (39, .invokevirtual 294, 3, 49, 0, 0), (42, .ireturn, 1, 0, 0, 0)]
/-- LastAsked.die(I)I -/
def xc_105 : List xCe := [(0, .aload_n 0, 1, 0, 0, 0), (1, .aload_n 0, 1, 0, 0, 0), (2, .iload_n 1, 1, 0, 0, 0), (3, .invokevirtual 138, 3, 119, 0, 0), (6, .invokevirtual 75, 3, 114, 0, 0), (9, .ifCond .eq 5, 3, 14, 0, 0), (12, .iconst (-1), 1, 0, (-1), 0), (13, .ireturn, 1, 0, 0, 0), (14, .aload_n 0, 1, 0, 0, 0), (15, .getfield 36, 3, 704, 0, 0), (18, .aload_n 0, 1, 0, 0, 0), (19, .getfield 26, 3, 702, 0, 0), (22, .invokevirtual 288, 3, 18, 0, 0), (25, .aload_n 0, 1, 0, 0, 0), (26, .invokevirtual 141, 3, 129, 0, 0), (29, .getfield 145, 3, 600, 0, 0), (32, .iload_n 1, 1, 0, 0, 0), (33, .iaload, 1, 0, 0, 0), (34, .istore_n 2, 1, 0, 0, 0), (35, .aload_n 0, 1, 0, 0, 0), (36, .getfield 26, 3, 702, 0, 0), (39, .iconst 1, 1, 0, 1, 0), (40, .iload_n 1, 1, 0, 0, 0), (41, .ishl, 1, 0, 0, 0), (42, .aload_n 0, 1, 0, 0, 0), (43, .getfield 43, 3, 705, 0, 0), (46, .invokevirtual 298, 3, 51, 0, 0), (49, .iload_n 2, 1, 0, 0, 0), (50, .ireturn, 1, 0, 0, 0)]
/-- LastAsked.night()I -/
def xc_106 : List xCe := [(0, .aload_n 0, 1, 0, 0, 0), (1, .aload_n 0, 1, 0, 0, 0), (2, .invokevirtual 154, 3, 115, 0, 0), (5, .ifCond .ne 7, 3, 12, 0, 0), (8, .iconst 1, 1, 0, 1, 0), (9, .goto 21, 3, 30, 0, 0), (12, .aload_n 0, 1, 0, 0, 0), (13, .getfield 26, 3, 702, 0, 0), (16, .getfield 302, 3, 402, 0, 0), (19, .sipush 999, 3, 0, 999, 0), (22, .if_icmp .lt 7, 3, 29, 0, 0), (25, .iconst 3, 1, 0, 3, 0), (26, .goto 4, 3, 30, 0, 0), (29, .iconst 0, 1, 0, 0, 0), (30, .invokevirtual 75, 3, 114, 0, 0), (33, .ifCond .eq 5, 3, 38, 0, 0), (36, .iconst (-1), 1, 0, (-1), 0), (37, .ireturn, 1, 0, 0, 0), (38, .aload_n 0, 1, 0, 0, 0), (39, .getfield 36, 3, 704, 0, 0), (42, .aload_n 0, 1, 0, 0, 0), (43, .getfield 26, 3, 702, 0, 0), (46, .invokevirtual 288, 3, 18, 0, 0), (49, .aload_n 0, 1, 0, 0, 0), (50, .getfield 26, 3, 702, 0, 0), (53, .dup, 1, 0, 0, 0), (54, .getfield 302, 3, 402, 0, 0), (57, .iconst 1, 1, 0, 1, 0), (58, .iadd, 1, 0, 0, 0), (59, .putfield 302, 3, 402, 0, 0), (62, .aload_n 0, 1, 0, 0, 0), (63, .aload_n 0, 1, 0, 0, 0), (64, .getfield 26, 3, 702, 0, 0), (67, .invokevirtual 281, 3, 145, 0, 0), (70, .ireturn, 1, 0, 0, 0)]
/-- LastAsked.seed(I)Z -/
def xc_107 : List xCe := [(0, .aload_n 0, 1, 0, 0, 0), (1, .aload_n 0, 1, 0, 0, 0), (2, .invokevirtual 154, 3, 115, 0, 0), (5, .ifCond .ne 7, 3, 12, 0, 0), (8, .iconst 1, 1, 0, 1, 0), (9, .goto 19, 3, 28, 0, 0), (12, .iload_n 1, 1, 0, 0, 0), (13, .ifCond .lt 14, 3, 27, 0, 0), (16, .iload_n 1, 1, 0, 0, 0), (17, .ldc_w 305, 3, 0, 65536, 0), (20, .if_icmp .gt 7, 3, 27, 0, 0), (23, .iconst 0, 1, 0, 0, 0), (24, .goto 4, 3, 28, 0, 0), (27, .iconst 2, 1, 0, 2, 0), (28, .invokevirtual 75, 3, 114, 0, 0), (31, .ifCond .eq 5, 3, 36, 0, 0), (34, .iconst 0, 1, 0, 0, 0), (35, .ireturn, 1, 0, 0, 0), (36, .aload_n 0, 1, 0, 0, 0), (37, .getfield 26, 3, 702, 0, 0), (40, .iload_n 1, 1, 0, 0, 0), (41, .putfield 278, 3, 401, 0, 0), (44, .iconst 1, 1, 0, 1, 0), (45, .ireturn, 1, 0, 0, 0)]
/-- LastAsked.undo()Z -/
def xc_108 : List xCe := [(0, .aload_n 0, 1, 0, 0, 0), (1, .aload_n 0, 1, 0, 0, 0), (2, .getfield 36, 3, 704, 0, 0), (5, .aload_n 0, 1, 0, 0, 0), (6, .getfield 26, 3, 702, 0, 0), (9, .invokevirtual 306, 3, 19, 0, 0), (12, .ifCond .eq 7, 3, 19, 0, 0), (15, .iconst 0, 1, 0, 0, 0), (16, .goto 5, 3, 21, 0, 0), (19, .bipush 6, 2, 0, 6, 0), (21, .invokevirtual 75, 3, 114, 0, 0), (24, .ifCond .ne 7, 3, 31, 0, 0), (27, .iconst 1, 1, 0, 1, 0), (28, .goto 4, 3, 32, 0, 0), (31, .iconst 0, 1, 0, 0, 0), (32, .ireturn, 1, 0, 0, 0)]
/-- LastAsked.image()I -/
def xc_109 : List xCe := [(0, .aload_n 0, 1, 0, 0, 0), (1, .aload_n 0, 1, 0, 0, 0), (2, .invokevirtual 154, 3, 115, 0, 0), (5, .ifCond .ne 7, 3, 12, 0, 0), (8, .iconst 1, 1, 0, 1, 0), (9, .goto 19, 3, 28, 0, 0), (12, .aload_n 0, 1, 0, 0, 0), (13, .getfield 36, 3, 704, 0, 0), (16, .getfield 310, 3, 201, 0, 0), (19, .iconst 3, 1, 0, 3, 0), (20, .if_icmp .lt 7, 3, 27, 0, 0), (23, .iconst 3, 1, 0, 3, 0), (24, .goto 4, 3, 28, 0, 0), (27, .iconst 0, 1, 0, 0, 0), (28, .invokevirtual 75, 3, 114, 0, 0), (31, .ifCond .eq 5, 3, 36, 0, 0), (34, .iconst (-1), 1, 0, (-1), 0), (35, .ireturn, 1, 0, 0, 0), (36, .aload_n 0, 1, 0, 0, 0), (37, .getfield 36, 3, 704, 0, 0), (40, .aload_n 0, 1, 0, 0, 0), (41, .getfield 26, 3, 702, 0, 0), (44, .invokevirtual 313, 3, 20, 0, 0), (47, .ireturn, 1, 0, 0, 0)]
/-- LastAsked.back(I)Z -/
def xc_110 : List xCe := [(0, .aload_n 0, 1, 0, 0, 0), (1, .aload_n 0, 1, 0, 0, 0), (2, .getfield 36, 3, 704, 0, 0), (5, .iload_n 1, 1, 0, 0, 0), (6, .aload_n 0, 1, 0, 0, 0), (7, .getfield 26, 3, 702, 0, 0), (10, .invokevirtual 316, 3, 21, 0, 0), (13, .ifCond .eq 7, 3, 20, 0, 0), (16, .iconst 0, 1, 0, 0, 0), (17, .goto 4, 3, 21, 0, 0), (20, .iconst 1, 1, 0, 1, 0), (21, .invokevirtual 75, 3, 114, 0, 0), (24, .ifCond .ne 7, 3, 31, 0, 0), (27, .iconst 1, 1, 0, 1, 0), (28, .goto 4, 3, 32, 0, 0), (31, .iconst 0, 1, 0, 0, 0), (32, .ireturn, 1, 0, 0, 0)]
def xc_111 : List xCe := []
/-- LastAsked.size(I)I -/
def xc_112 : List xCe := [(0, .iload_n 1, 1, 0, 0, 0), (1, .tableswitch 174 0 12 #[67, 75, 83, 91, 99, 107, 115, 123, 134, 142, 150, 158, 166], 67, 0, 0, 0), (68, .aload_n 0, 1, 0, 0, 0), (69, .getfield 26, 3, 702, 0, 0), (72, .getfield 323, 3, 400, 0, 0), (75, .ireturn, 1, 0, 0, 0), (76, .aload_n 0, 1, 0, 0, 0), (77, .getfield 19, 3, 701, 0, 0), (80, .getfield 291, 3, 1, 0, 0), (83, .ireturn, 1, 0, 0, 0), (84, .aload_n 0, 1, 0, 0, 0), (85, .getfield 19, 3, 701, 0, 0), (88, .getfield 96, 3, 2, 0, 0), (91, .ireturn, 1, 0, 0, 0), (92, .aload_n 0, 1, 0, 0, 0), (93, .getfield 19, 3, 701, 0, 0), (96, .getfield 326, 3, 3, 0, 0), (99, .ireturn, 1, 0, 0, 0), (100, .aload_n 0, 1, 0, 0, 0), (101, .getfield 19, 3, 701, 0, 0), (104, .getfield 329, 3, 4, 0, 0), (107, .ireturn, 1, 0, 0, 0), (108, .aload_n 0, 1, 0, 0, 0), (109, .getfield 19, 3, 701, 0, 0), (112, .getfield 225, 3, 5, 0, 0), (115, .ireturn, 1, 0, 0, 0), (116, .aload_n 0, 1, 0, 0, 0), (117, .getfield 19, 3, 701, 0, 0), (120, .getfield 332, 3, 6, 0, 0), (123, .ireturn, 1, 0, 0, 0), (124, .aload_n 0, 1, 0, 0, 0), (125, .getfield 26, 3, 702, 0, 0), (128, .getfield 161, 3, 404, 0, 0), (131, .invokestatic 335, 3, 273, 0, 0), (134, .ireturn, 1, 0, 0, 0), (135, .aload_n 0, 1, 0, 0, 0), (136, .getfield 26, 3, 702, 0, 0), (139, .getfield 302, 3, 402, 0, 0), (142, .ireturn, 1, 0, 0, 0), (143, .aload_n 0, 1, 0, 0, 0), (144, .getfield 26, 3, 702, 0, 0), (147, .getfield 278, 3, 401, 0, 0), (150, .ireturn, 1, 0, 0, 0), (151, .aload_n 0, 1, 0, 0, 0), (152, .getfield 36, 3, 704, 0, 0), (155, .getfield 340, 3, 200, 0, 0), (158, .ireturn, 1, 0, 0, 0), (159, .aload_n 0, 1, 0, 0, 0), (160, .getfield 36, 3, 704, 0, 0), (163, .getfield 310, 3, 201, 0, 0), (166, .ireturn, 1, 0, 0, 0), (167, .aload_n 0, 1, 0, 0, 0), (168, .getfield 10, 3, 700, 0, 0), (171, .getfield 68, 3, 300, 0, 0), (174, .ireturn, 1, 0, 0, 0), (175, .iconst (-1), 1, 0, (-1), 0), (176, .ireturn, 1, 0, 0, 0)]
/-- LastAsked.trouble()I -/
def xc_113 : List xCe := [(0, .aload_n 0, 1, 0, 0, 0), (1, .getfield 61, 3, 708, 0, 0), (4, .ireturn, 1, 0, 0, 0)]
/-- LastAsked.refused(I)Z -/
def xc_114 : List xCe := [(0, .aload_n 0, 1, 0, 0, 0), (1, .iload_n 1, 1, 0, 0, 0), (2, .putfield 61, 3, 708, 0, 0), (5, .iload_n 1, 1, 0, 0, 0), (6, .ifCond .eq 7, 3, 13, 0, 0), (9, .iconst 1, 1, 0, 1, 0), (10, .goto 4, 3, 14, 0, 0), (13, .iconst 0, 1, 0, 0, 0), (14, .ireturn, 1, 0, 0, 0)]
/-- LastAsked.isCity()Z -/
def xc_115 : List xCe := [(0, .aload_n 0, 1, 0, 0, 0), (1, .getfield 19, 3, 701, 0, 0), (4, .getfield 96, 3, 2, 0, 0), (7, .ifCond .le 7, 3, 14, 0, 0), (10, .iconst 1, 1, 0, 1, 0), (11, .goto 4, 3, 15, 0, 0), (14, .iconst 0, 1, 0, 0, 0), (15, .ireturn, 1, 0, 0, 0)]
/-- LastAsked.isPerson(I)Z -/
def xc_116 : List xCe := [(0, .iload_n 1, 1, 0, 0, 0), (1, .ifCond .lt 24, 3, 25, 0, 0), (4, .iload_n 1, 1, 0, 0, 0), (5, .aload_n 0, 1, 0, 0, 0), (6, .getfield 19, 3, 701, 0, 0), (9, .getfield 96, 3, 2, 0, 0), (12, .if_icmp .ge 13, 3, 25, 0, 0), (15, .iload_n 1, 1, 0, 0, 0), (16, .bipush 6, 2, 0, 6, 0), (18, .if_icmp .ge 7, 3, 25, 0, 0), (21, .iconst 1, 1, 0, 1, 0), (22, .goto 4, 3, 26, 0, 0), (25, .iconst 0, 1, 0, 0, 0), (26, .ireturn, 1, 0, 0, 0)]
/-- LastAsked.areTwo(II)Z -/
def xc_117 : List xCe := [(0, .aload_n 0, 1, 0, 0, 0), (1, .iload_n 1, 1, 0, 0, 0), (2, .invokevirtual 102, 3, 116, 0, 0), (5, .ifCond .eq 20, 3, 25, 0, 0), (8, .aload_n 0, 1, 0, 0, 0), (9, .iload_n 2, 1, 0, 0, 0), (10, .invokevirtual 102, 3, 116, 0, 0), (13, .ifCond .eq 12, 3, 25, 0, 0), (16, .iload_n 1, 1, 0, 0, 0), (17, .iload_n 2, 1, 0, 0, 0), (18, .if_icmp .eq 7, 3, 25, 0, 0), (21, .iconst 1, 1, 0, 1, 0), (22, .goto 4, 3, 26, 0, 0), (25, .iconst 0, 1, 0, 0, 0), (26, .ireturn, 1, 0, 0, 0)]
/-- LastAsked.isLivingSet(I)Z -/
def xc_118 : List xCe := [(0, .iload_n 1, 1, 0, 0, 0), (1, .aload_n 0, 1, 0, 0, 0), (2, .getfield 26, 3, 702, 0, 0), (5, .getfield 161, 3, 404, 0, 0), (8, .iconst (-1), 1, 0, (-1), 0), (9, .ixor, 1, 0, 0, 0), (10, .iand, 1, 0, 0, 0), (11, .ifCond .ne 7, 3, 18, 0, 0), (14, .iconst 1, 1, 0, 1, 0), (15, .goto 4, 3, 19, 0, 0), (18, .iconst 0, 1, 0, 0, 0), (19, .ireturn, 1, 0, 0, 0)]
/-- LastAsked.livesOr(I)I -/
def xc_119 : List xCe := [(0, .aload_n 0, 1, 0, 0, 0), (1, .iload_n 1, 1, 0, 0, 0), (2, .invokevirtual 102, 3, 116, 0, 0), (5, .ifCond .ne 7, 3, 12, 0, 0), (8, .iconst 1, 1, 0, 1, 0), (9, .goto 19, 3, 28, 0, 0), (12, .aload_n 0, 1, 0, 0, 0), (13, .getfield 26, 3, 702, 0, 0), (16, .iload_n 1, 1, 0, 0, 0), (17, .invokevirtual 115, 3, 48, 0, 0), (20, .ifCond .eq 7, 3, 27, 0, 0), (23, .iconst 0, 1, 0, 0, 0), (24, .goto 4, 3, 28, 0, 0), (27, .iconst 5, 1, 0, 5, 0), (28, .ireturn, 1, 0, 0, 0)]
/-- LastAsked.seekerOr(IZ)I -/
def xc_120 : List xCe := [(0, .aload_n 0, 1, 0, 0, 0), (1, .iload_n 1, 1, 0, 0, 0), (2, .invokevirtual 102, 3, 116, 0, 0), (5, .ifCond .ne 7, 3, 12, 0, 0), (8, .iconst 1, 1, 0, 1, 0), (9, .goto 27, 3, 36, 0, 0), (12, .iload_n 2, 1, 0, 0, 0), (13, .ifCond .ne 7, 3, 20, 0, 0), (16, .iconst 2, 1, 0, 2, 0), (17, .goto 19, 3, 36, 0, 0), (20, .aload_n 0, 1, 0, 0, 0), (21, .getfield 26, 3, 702, 0, 0), (24, .iload_n 1, 1, 0, 0, 0), (25, .invokevirtual 115, 3, 48, 0, 0), (28, .ifCond .eq 7, 3, 35, 0, 0), (31, .iconst 0, 1, 0, 0, 0), (32, .goto 4, 3, 36, 0, 0), (35, .iconst 5, 1, 0, 5, 0), (36, .ireturn, 1, 0, 0, 0)]
/-- LastAsked.shameOr(I)I -/
def xc_121 : List xCe := [(0, .aload_n 0, 1, 0, 0, 0), (1, .invokevirtual 154, 3, 115, 0, 0), (4, .ifCond .ne 7, 3, 11, 0, 0), (7, .iconst 1, 1, 0, 1, 0), (8, .goto 18, 3, 26, 0, 0), (11, .iload_n 1, 1, 0, 0, 0), (12, .ifCond .lt 13, 3, 25, 0, 0), (15, .iload_n 1, 1, 0, 0, 0), (16, .bipush 9, 2, 0, 9, 0), (18, .if_icmp .gt 7, 3, 25, 0, 0), (21, .iconst 0, 1, 0, 0, 0), (22, .goto 4, 3, 26, 0, 0), (25, .iconst 2, 1, 0, 2, 0), (26, .ireturn, 1, 0, 0, 0)]
/-- LastAsked.drawsOr(II)I -/
def xc_122 : List xCe := [(0, .iload_n 1, 1, 0, 0, 0), (1, .ifCond .lt 24, 3, 25, 0, 0), (4, .iload_n 1, 1, 0, 0, 0), (5, .ldc_w 305, 3, 0, 65536, 0), (8, .if_icmp .gt 17, 3, 25, 0, 0), (11, .iload_n 2, 1, 0, 0, 0), (12, .ifCond .lt 13, 3, 25, 0, 0), (15, .iload_n 2, 1, 0, 0, 0), (16, .bipush 60, 2, 0, 60, 0), (18, .if_icmp .gt 7, 3, 25, 0, 0), (21, .iconst 1, 1, 0, 1, 0), (22, .goto 4, 3, 26, 0, 0), (25, .iconst 0, 1, 0, 0, 0), (26, .istore_n 3, 1, 0, 0, 0), (27, .aload_n 0, 1, 0, 0, 0), (28, .invokevirtual 154, 3, 115, 0, 0), (31, .ifCond .ne 7, 3, 38, 0, 0), (34, .iconst 1, 1, 0, 1, 0), (35, .goto 12, 3, 47, 0, 0), (38, .iload_n 3, 1, 0, 0, 0), (39, .ifCond .eq 7, 3, 46, 0, 0), (42, .iconst 0, 1, 0, 0, 0), (43, .goto 4, 3, 47, 0, 0), (46, .iconst 2, 1, 0, 2, 0), (47, .ireturn, 1, 0, 0, 0)]
/-- LastAsked.askTrouble(II)I -/
def xc_123 : List xCe := [(0, .aload_n 0, 1, 0, 0, 0), (1, .iload_n 1, 1, 0, 0, 0), (2, .iload_n 2, 1, 0, 0, 0), (3, .invokevirtual 127, 3, 117, 0, 0), (6, .ifCond .ne 5, 3, 11, 0, 0), (9, .iconst 1, 1, 0, 1, 0), (10, .ireturn, 1, 0, 0, 0), (11, .aload_n 0, 1, 0, 0, 0), (12, .getfield 26, 3, 702, 0, 0), (15, .iload_n 1, 1, 0, 0, 0), (16, .invokevirtual 115, 3, 48, 0, 0), (19, .ifCond .eq 14, 3, 33, 0, 0), (22, .aload_n 0, 1, 0, 0, 0), (23, .getfield 26, 3, 702, 0, 0), (26, .iload_n 2, 1, 0, 0, 0), (27, .invokevirtual 115, 3, 48, 0, 0), (30, .ifCond .ne 5, 3, 35, 0, 0), (33, .iconst 5, 1, 0, 5, 0), (34, .ireturn, 1, 0, 0, 0), (35, .aload_n 0, 1, 0, 0, 0), (36, .getfield 19, 3, 701, 0, 0), (39, .iload_n 1, 1, 0, 0, 0), (40, .iload_n 2, 1, 0, 0, 0), (41, .invokevirtual 343, 3, 4, 0, 0), (44, .ifCond .ne 6, 3, 50, 0, 0), (47, .bipush 6, 2, 0, 6, 0), (49, .ireturn, 1, 0, 0, 0), (50, .aload_n 0, 1, 0, 0, 0), (51, .getfield 26, 3, 702, 0, 0), (54, .getfield 323, 3, 400, 0, 0), (57, .sipush 999, 3, 0, 999, 0), (60, .if_icmp .lt 7, 3, 67, 0, 0), (63, .iconst 3, 1, 0, 3, 0), (64, .goto 4, 3, 68, 0, 0), (67, .iconst 0, 1, 0, 0, 0), (68, .ireturn, 1, 0, 0, 0)]
/-- LastAsked.in(II)Z -/
def xc_124 : List xCe := [(0, .iload_n 1, 1, 0, 0, 0), (1, .ifCond .lt 22, 3, 23, 0, 0), (4, .iload_n 1, 1, 0, 0, 0), (5, .bipush 6, 2, 0, 6, 0), (7, .if_icmp .ge 16, 3, 23, 0, 0), (10, .iload_n 0, 1, 0, 0, 0), (11, .iload_n 1, 1, 0, 0, 0), (12, .ishr, 1, 0, 0, 0), (13, .iconst 1, 1, 0, 1, 0), (14, .iand, 1, 0, 0, 0), (15, .iconst 1, 1, 0, 1, 0), (16, .if_icmp .ne 7, 3, 23, 0, 0), (19, .iconst 1, 1, 0, 1, 0), (20, .goto 4, 3, 24, 0, 0), (23, .iconst 0, 1, 0, 0, 0), (24, .ireturn, 1, 0, 0, 0)]
/-- LastAsked.pair(II)I -/
def xc_125 : List xCe := [(0, .iload_n 0, 1, 0, 0, 0), (1, .bipush 6, 2, 0, 6, 0), (3, .imul, 1, 0, 0, 0), (4, .iload_n 1, 1, 0, 0, 0), (5, .iadd, 1, 0, 0, 0), (6, .ireturn, 1, 0, 0, 0)]
/-- LastAsked.askable(I)I -/
def xc_126 : List xCe := [(0, .iconst 0, 1, 0, 0, 0), (1, .istore_n 2, 1, 0, 0, 0), (2, .iconst 0, 1, 0, 0, 0), (3, .istore_n 3, 1, 0, 0, 0), (4, .iload_n 3, 1, 0, 0, 0), (5, .bipush 6, 2, 0, 6, 0), (7, .if_icmp .ge 49, 3, 56, 0, 0), (10, .aload_n 0, 1, 0, 0, 0), (11, .getfield 26, 3, 702, 0, 0), (14, .iload_n 1, 1, 0, 0, 0), (15, .invokevirtual 115, 3, 48, 0, 0), (18, .ifCond .eq 32, 3, 50, 0, 0), (21, .aload_n 0, 1, 0, 0, 0), (22, .getfield 26, 3, 702, 0, 0), (25, .iload_n 3, 1, 0, 0, 0), (26, .invokevirtual 115, 3, 48, 0, 0), (29, .ifCond .eq 21, 3, 50, 0, 0), (32, .aload_n 0, 1, 0, 0, 0), (33, .getfield 19, 3, 701, 0, 0), (36, .iload_n 1, 1, 0, 0, 0), (37, .iload_n 3, 1, 0, 0, 0), (38, .invokevirtual 343, 3, 4, 0, 0), (41, .ifCond .eq 9, 3, 50, 0, 0), (44, .iload_n 2, 1, 0, 0, 0), (45, .iconst 1, 1, 0, 1, 0), (46, .iload_n 3, 1, 0, 0, 0), (47, .ishl, 1, 0, 0, 0), (48, .ior, 1, 0, 0, 0), (49, .istore_n 2, 1, 0, 0, 0), (50, .iinc 3 1, 3, 0, 1, 0), (53, .goto (-49), 3, 4, 0, 0), (56, .iload_n 2, 1, 0, 0, 0), (57, .ireturn, 1, 0, 0, 0)]
/-- LastAsked.askers(I)I -/
def xc_127 : List xCe := [(0, .iconst 0, 1, 0, 0, 0), (1, .istore_n 2, 1, 0, 0, 0), (2, .iconst 0, 1, 0, 0, 0), (3, .istore_n 3, 1, 0, 0, 0), (4, .iload_n 3, 1, 0, 0, 0), (5, .bipush 6, 2, 0, 6, 0), (7, .if_icmp .ge 49, 3, 56, 0, 0), (10, .aload_n 0, 1, 0, 0, 0), (11, .getfield 26, 3, 702, 0, 0), (14, .iload_n 1, 1, 0, 0, 0), (15, .invokevirtual 115, 3, 48, 0, 0), (18, .ifCond .eq 32, 3, 50, 0, 0), (21, .aload_n 0, 1, 0, 0, 0), (22, .getfield 26, 3, 702, 0, 0), (25, .iload_n 3, 1, 0, 0, 0), (26, .invokevirtual 115, 3, 48, 0, 0), (29, .ifCond .eq 21, 3, 50, 0, 0), (32, .aload_n 0, 1, 0, 0, 0), (33, .getfield 19, 3, 701, 0, 0), (36, .iload_n 3, 1, 0, 0, 0), (37, .iload_n 1, 1, 0, 0, 0), (38, .invokevirtual 343, 3, 4, 0, 0), (41, .ifCond .eq 9, 3, 50, 0, 0), (44, .iload_n 2, 1, 0, 0, 0), (45, .iconst 1, 1, 0, 1, 0), (46, .iload_n 3, 1, 0, 0, 0), (47, .ishl, 1, 0, 0, 0), (48, .ior, 1, 0, 0, 0), (49, .istore_n 2, 1, 0, 0, 0), (50, .iinc 3 1, 3, 0, 1, 0), (53, .goto (-49), 3, 4, 0, 0), (56, .iload_n 2, 1, 0, 0, 0), (57, .ireturn, 1, 0, 0, 0)]
/-- LastAsked.richestOf(I)I -/
def xc_128 : List xCe := [(0, .bipush (-2), 2, 0, (-2), 0), (2, .istore_n 2, 1, 0, 0, 0), (3, .iconst (-1), 1, 0, (-1), 0), (4, .istore_n 3, 1, 0, 0, 0), (5, .iconst 0, 1, 0, 0, 0), (6, .istore 4, 2, 0, 0, 0), (8, .iload 4, 2, 0, 0, 0), (10, .bipush 6, 2, 0, 6, 0), (12, .if_icmp .ge 46, 3, 58, 0, 0), (15, .iload_n 1, 1, 0, 0, 0), (16, .iload 4, 2, 0, 0, 0), (18, .invokestatic 170, 3, 124, 0, 0), (21, .ifCond .eq 31, 3, 52, 0, 0), (24, .aload_n 0, 1, 0, 0, 0), (25, .getfield 26, 3, 702, 0, 0), (28, .getfield 109, 3, 405, 0, 0), (31, .iload 4, 2, 0, 0, 0), (33, .iaload, 1, 0, 0, 0), (34, .iload_n 3, 1, 0, 0, 0), (35, .if_icmp .le 17, 3, 52, 0, 0), (38, .iload 4, 2, 0, 0, 0), (40, .istore_n 2, 1, 0, 0, 0), (41, .aload_n 0, 1, 0, 0, 0), (42, .getfield 26, 3, 702, 0, 0), (45, .getfield 109, 3, 405, 0, 0), (48, .iload 4, 2, 0, 0, 0), (50, .iaload, 1, 0, 0, 0), (51, .istore_n 3, 1, 0, 0, 0), (52, .iinc 4 1, 3, 0, 1, 0), (55, .goto (-47), 3, 8, 0, 0), (58, .iload_n 2, 1, 0, 0, 0), (59, .ireturn, 1, 0, 0, 0)]
/-- LastAsked.willsNow()LLastAsked$Wills; -/
def xc_129 : List xCe := [(0, .aload_n 0, 1, 0, 0, 0), (1, .getfield 43, 3, 705, 0, 0), (4, .aload_n 0, 1, 0, 0, 0), (5, .getfield 26, 3, 702, 0, 0), (8, .getfield 131, 3, 406, 0, 0), (11, .aload_n 0, 1, 0, 0, 0), (12, .getfield 26, 3, 702, 0, 0), (15, .getfield 161, 3, 404, 0, 0), (18, .invokevirtual 250, 3, 57, 0, 0), (21, .aload_n 0, 1, 0, 0, 0), (22, .getfield 43, 3, 705, 0, 0), (25, .areturn, 1, 0, 0, 0)]
/-- LastAsked.heirsTo(I)I -/
def xc_130 : List xCe := [(0, .aload_n 0, 1, 0, 0, 0), (1, .invokevirtual 141, 3, 129, 0, 0), (4, .pop, 1, 0, 0, 0), (5, .iconst 0, 1, 0, 0, 0), (6, .istore_n 2, 1, 0, 0, 0), (7, .iconst 0, 1, 0, 0, 0), (8, .istore_n 3, 1, 0, 0, 0), (9, .iload_n 3, 1, 0, 0, 0), (10, .bipush 6, 2, 0, 6, 0), (12, .if_icmp .ge 39, 3, 51, 0, 0), (15, .aload_n 0, 1, 0, 0, 0), (16, .getfield 26, 3, 702, 0, 0), (19, .iload_n 3, 1, 0, 0, 0), (20, .invokevirtual 115, 3, 48, 0, 0), (23, .ifCond .eq 22, 3, 45, 0, 0), (26, .aload_n 0, 1, 0, 0, 0), (27, .getfield 43, 3, 705, 0, 0), (30, .getfield 145, 3, 600, 0, 0), (33, .iload_n 3, 1, 0, 0, 0), (34, .iaload, 1, 0, 0, 0), (35, .iload_n 1, 1, 0, 0, 0), (36, .if_icmp .ne 9, 3, 45, 0, 0), (39, .iload_n 2, 1, 0, 0, 0), (40, .iconst 1, 1, 0, 1, 0), (41, .iload_n 3, 1, 0, 0, 0), (42, .ishl, 1, 0, 0, 0), (43, .ior, 1, 0, 0, 0), (44, .istore_n 2, 1, 0, 0, 0), (45, .iinc 3 1, 3, 0, 1, 0), (48, .goto (-39), 3, 9, 0, 0), (51, .iload_n 2, 1, 0, 0, 0), (52, .ireturn, 1, 0, 0, 0)]
/-- LastAsked.hasBehind(II)I -/
def xc_131 : List xCe := [(0, .iload_n 2, 1, 0, 0, 0), (1, .iload_n 1, 1, 0, 0, 0), (2, .invokestatic 170, 3, 124, 0, 0), (5, .ifCond .eq 5, 3, 10, 0, 0), (8, .iconst 0, 1, 0, 0, 0), (9, .ireturn, 1, 0, 0, 0), (10, .aload_n 0, 1, 0, 0, 0), (11, .getfield 26, 3, 702, 0, 0), (14, .getfield 109, 3, 405, 0, 0), (17, .iload_n 1, 1, 0, 0, 0), (18, .iaload, 1, 0, 0, 0), (19, .istore_n 3, 1, 0, 0, 0), (20, .iconst 0, 1, 0, 0, 0), (21, .istore 4, 2, 0, 0, 0), (23, .iload 4, 2, 0, 0, 0), (25, .bipush 6, 2, 0, 6, 0), (27, .if_icmp .ge 45, 3, 72, 0, 0), (30, .iload_n 2, 1, 0, 0, 0), (31, .iload 4, 2, 0, 0, 0), (33, .invokestatic 170, 3, 124, 0, 0), (36, .ifCond .eq 30, 3, 66, 0, 0), (39, .aload_n 0, 1, 0, 0, 0), (40, .getfield 43, 3, 705, 0, 0), (43, .iload 4, 2, 0, 0, 0), (45, .iload_n 2, 1, 0, 0, 0), (46, .invokevirtual 173, 3, 59, 0, 0), (49, .iload_n 1, 1, 0, 0, 0), (50, .if_icmp .ne 16, 3, 66, 0, 0), (53, .iload_n 3, 1, 0, 0, 0), (54, .aload_n 0, 1, 0, 0, 0), (55, .getfield 26, 3, 702, 0, 0), (58, .getfield 109, 3, 405, 0, 0), (61, .iload 4, 2, 0, 0, 0), (63, .iaload, 1, 0, 0, 0), (64, .iadd, 1, 0, 0, 0), (65, .istore_n 3, 1, 0, 0, 0), (66, .iinc 4 1, 3, 0, 1, 0), (69, .goto (-46), 3, 23, 0, 0), (72, .iload_n 3, 1, 0, 0, 0), (73, .ireturn, 1, 0, 0, 0)]
/-- LastAsked.likely(II)J -/
def xc_132 : List xCe := [(0, .lconst 1, 1, 0, 0, 1), (1, .lstore_n 3, 1, 0, 0, 0), (2, .iconst 0, 1, 0, 0, 0), (3, .istore 5, 2, 0, 0, 0), (5, .iload 5, 2, 0, 0, 0), (7, .bipush 6, 2, 0, 6, 0), (9, .if_icmp .ge 70, 3, 79, 0, 0), (12, .iload_n 1, 1, 0, 0, 0), (13, .iload 5, 2, 0, 0, 0), (15, .invokestatic 170, 3, 124, 0, 0), (18, .ifCond .eq 20, 3, 38, 0, 0), (21, .lload_n 3, 1, 0, 0, 0), (22, .aload_n 0, 1, 0, 0, 0), (23, .getfield 19, 3, 701, 0, 0), (26, .getfield 112, 3, 9, 0, 0), (29, .iload 5, 2, 0, 0, 0), (31, .iaload, 1, 0, 0, 0), (32, .i2l, 1, 0, 0, 0), (33, .lmul, 1, 0, 0, 0), (34, .lstore_n 3, 1, 0, 0, 0), (35, .goto 38, 3, 73, 0, 0), (38, .iload_n 2, 1, 0, 0, 0), (39, .iload 5, 2, 0, 0, 0), (41, .invokestatic 170, 3, 124, 0, 0), (44, .ifCond .eq 23, 3, 67, 0, 0), (47, .lload_n 3, 1, 0, 0, 0), (48, .bipush 100, 2, 0, 100, 0), (50, .aload_n 0, 1, 0, 0, 0), (51, .getfield 19, 3, 701, 0, 0), (54, .getfield 112, 3, 9, 0, 0), (57, .iload 5, 2, 0, 0, 0), (59, .iaload, 1, 0, 0, 0), (60, .isub, 1, 0, 0, 0), (61, .i2l, 1, 0, 0, 0), (62, .lmul, 1, 0, 0, 0), (63, .lstore_n 3, 1, 0, 0, 0), (64, .goto 9, 3, 73, 0, 0), (67, .lload_n 3, 1, 0, 0, 0), (68, .ldc2_w 346, 3, 0, 0, 100), (71, .lmul, 1, 0, 0, 0), (72, .lstore_n 3, 1, 0, 0, 0), (73, .iinc 5 1, 3, 0, 1, 0), (76, .goto (-71), 3, 5, 0, 0), (79, .lload_n 3, 1, 0, 0, 0), (80, .lreturn, 1, 0, 0, 0)]
/-- LastAsked.meanOf(ILLastAsked$State;)J -/
def xc_133 : List xCe := [(0, .aload_n 0, 1, 0, 0, 0), (1, .getfield 43, 3, 705, 0, 0), (4, .aload_n 2, 1, 0, 0, 0), (5, .getfield 131, 3, 406, 0, 0), (8, .aload_n 2, 1, 0, 0, 0), (9, .getfield 161, 3, 404, 0, 0), (12, .invokevirtual 250, 3, 57, 0, 0), (15, .lconst 0, 1, 0, 0, 0), (16, .lstore_n 3, 1, 0, 0, 0), (17, .iconst 0, 1, 0, 0, 0), (18, .istore 5, 2, 0, 0, 0), (20, .iload 5, 2, 0, 0, 0), (22, .bipush 6, 2, 0, 6, 0), (24, .if_icmp .ge 69, 3, 93, 0, 0), (27, .aload_n 2, 1, 0, 0, 0), (28, .iload_n 1, 1, 0, 0, 0), (29, .invokevirtual 115, 3, 48, 0, 0), (32, .ifCond .eq 25, 3, 57, 0, 0), (35, .aload_n 2, 1, 0, 0, 0), (36, .iload 5, 2, 0, 0, 0), (38, .invokevirtual 115, 3, 48, 0, 0), (41, .ifCond .eq 16, 3, 57, 0, 0), (44, .aload_n 0, 1, 0, 0, 0), (45, .getfield 43, 3, 705, 0, 0), (48, .iload 5, 2, 0, 0, 0), (50, .iload_n 1, 1, 0, 0, 0), (51, .invokevirtual 179, 3, 60, 0, 0), (54, .goto 4, 3, 58, 0, 0), (57, .iconst (-1), 1, 0, (-1), 0), (58, .istore 6, 2, 0, 0, 0), (60, .iload 6, 2, 0, 0, 0), (62, .iconst (-1), 1, 0, (-1), 0), (63, .if_icmp .eq 24, 3, 87, 0, 0), (66, .lload_n 3, 1, 0, 0, 0), (67, .aload_n 2, 1, 0, 0, 0), (68, .getfield 109, 3, 405, 0, 0), (71, .iload 5, 2, 0, 0, 0), (73, .iaload, 1, 0, 0, 0), (74, .i2l, 1, 0, 0, 0), (75, .aload_n 0, 1, 0, 0, 0), (76, .iload 6, 2, 0, 0, 0), (78, .iconst 1, 1, 0, 1, 0), (79, .iload_n 1, 1, 0, 0, 0), (80, .ishl, 1, 0, 0, 0), (81, .invokevirtual 196, 3, 132, 0, 0), (84, .lmul, 1, 0, 0, 0), (85, .ladd, 1, 0, 0, 0), (86, .lstore_n 3, 1, 0, 0, 0), (87, .iinc 5 1, 3, 0, 1, 0), (90, .goto (-70), 3, 20, 0, 0), (93, .lload_n 3, 1, 0, 0, 0), (94, .lreturn, 1, 0, 0, 0)]
/-- LastAsked.likelyToHave(II)J -/
def xc_134 : List xCe := [(0, .iload_n 2, 1, 0, 0, 0), (1, .ifCond .ne 7, 3, 8, 0, 0), (4, .ldc2_w 348, 3, 0, 0, 1000000000000), (7, .lreturn, 1, 0, 0, 0), (8, .aload_n 0, 1, 0, 0, 0), (9, .getfield 26, 3, 702, 0, 0), (12, .iload_n 1, 1, 0, 0, 0), (13, .invokevirtual 115, 3, 48, 0, 0), (16, .ifCond .ne 5, 3, 21, 0, 0), (19, .lconst 0, 1, 0, 0, 0), (20, .lreturn, 1, 0, 0, 0), (21, .aload_n 0, 1, 0, 0, 0), (22, .invokevirtual 141, 3, 129, 0, 0), (25, .pop, 1, 0, 0, 0), (26, .lconst 0, 1, 0, 0, 0), (27, .lstore_n 3, 1, 0, 0, 0), (28, .iconst 0, 1, 0, 0, 0), (29, .istore 5, 2, 0, 0, 0), (31, .iload 5, 2, 0, 0, 0), (33, .bipush 64, 2, 0, 64, 0), (35, .if_icmp .ge 59, 3, 94, 0, 0), (38, .aload_n 0, 1, 0, 0, 0), (39, .iload 5, 2, 0, 0, 0), (41, .invokevirtual 167, 3, 118, 0, 0), (44, .ifCond .eq 44, 3, 88, 0, 0), (47, .iload 5, 2, 0, 0, 0), (49, .iload_n 1, 1, 0, 0, 0), (50, .invokestatic 170, 3, 124, 0, 0), (53, .ifCond .ne 35, 3, 88, 0, 0), (56, .aload_n 0, 1, 0, 0, 0), (57, .iload_n 1, 1, 0, 0, 0), (58, .iload 5, 2, 0, 0, 0), (60, .invokevirtual 151, 3, 131, 0, 0), (63, .iload_n 2, 1, 0, 0, 0), (64, .if_icmp .lt 24, 3, 88, 0, 0), (67, .lload_n 3, 1, 0, 0, 0), (68, .aload_n 0, 1, 0, 0, 0), (69, .iload 5, 2, 0, 0, 0), (71, .aload_n 0, 1, 0, 0, 0), (72, .getfield 26, 3, 702, 0, 0), (75, .getfield 161, 3, 404, 0, 0), (78, .iload 5, 2, 0, 0, 0), (80, .iconst (-1), 1, 0, (-1), 0), (81, .ixor, 1, 0, 0, 0), (82, .iand, 1, 0, 0, 0), (83, .invokevirtual 196, 3, 132, 0, 0), (86, .ladd, 1, 0, 0, 0), (87, .lstore_n 3, 1, 0, 0, 0), (88, .iinc 5 1, 3, 0, 1, 0), (91, .goto (-60), 3, 31, 0, 0), (94, .lload_n 3, 1, 0, 0, 0), (95, .lreturn, 1, 0, 0, 0)]
/-- LastAsked.term(JZ)J -/
def xc_135 : List xCe := [(0, .ldc2_w 348, 3, 0, 0, 1000000000000), (3, .lload_n 0, 1, 0, 0, 0), (4, .invokestatic 350, 3, 136, 0, 0), (7, .lstore_n 3, 1, 0, 0, 0), (8, .lload_n 3, 1, 0, 0, 0), (9, .lconst 0, 1, 0, 0, 0), (10, .lcmp, 1, 0, 0, 0), (11, .ifCond .gt 7, 3, 18, 0, 0), (14, .ldc2_w 182, 3, 0, 0, (-1)), (17, .lreturn, 1, 0, 0, 0), (18, .iload_n 2, 1, 0, 0, 0), (19, .ifCond .eq 11, 3, 30, 0, 0), (22, .ldc2_w 348, 3, 0, 0, 1000000000000), (25, .lload_n 3, 1, 0, 0, 0), (26, .ldiv, 1, 0, 0, 0), (27, .goto 6, 3, 33, 0, 0), (30, .lload_n 0, 1, 0, 0, 0), (31, .lload_n 3, 1, 0, 0, 0), (32, .ldiv, 1, 0, 0, 0), (33, .lreturn, 1, 0, 0, 0)]
/-- LastAsked.commonDivisor(JJ)J -/
def xc_136 : List xCe := [(0, .lload_n 0, 1, 0, 0, 0), (1, .lstore 4, 2, 0, 0, 0), (3, .lload_n 2, 1, 0, 0, 0), (4, .lstore 6, 2, 0, 0, 0), (6, .iconst 0, 1, 0, 0, 0), (7, .istore 8, 2, 0, 0, 0), (9, .iload 8, 2, 0, 0, 0), (11, .sipush 200, 3, 0, 200, 0), (14, .if_icmp .ge 31, 3, 45, 0, 0), (17, .lload 6, 2, 0, 0, 0), (19, .lconst 0, 1, 0, 0, 0), (20, .lcmp, 1, 0, 0, 0), (21, .ifCond .eq 24, 3, 45, 0, 0), (24, .lload 4, 2, 0, 0, 0), (26, .lload 6, 2, 0, 0, 0), (28, .lrem, 1, 0, 0, 0), (29, .lstore 9, 2, 0, 0, 0), (31, .lload 6, 2, 0, 0, 0), (33, .lstore 4, 2, 0, 0, 0), (35, .lload 9, 2, 0, 0, 0), (37, .lstore 6, 2, 0, 0, 0), (39, .iinc 8 1, 3, 0, 1, 0), (42, .goto (-33), 3, 9, 0, 0), (45, .lload 4, 2, 0, 0, 0), (47, .lreturn, 1, 0, 0, 0)]
/-- LastAsked.bestRow(II)I -/
def xc_137 : List xCe := [(0, .iconst 1, 1, 0, 1, 0), (1, .istore_n 3, 1, 0, 0, 0), (2, .iconst 0, 1, 0, 0, 0), (3, .istore 4, 2, 0, 0, 0), (5, .iload 4, 2, 0, 0, 0), (7, .iload_n 2, 1, 0, 0, 0), (8, .if_icmp .ge 20, 3, 28, 0, 0), (11, .iload 4, 2, 0, 0, 0), (13, .iconst 3, 1, 0, 3, 0), (14, .if_icmp .ge 14, 3, 28, 0, 0), (17, .iload_n 3, 1, 0, 0, 0), (18, .bipush 10, 2, 0, 10, 0), (20, .imul, 1, 0, 0, 0), (21, .istore_n 3, 1, 0, 0, 0), (22, .iinc 4 1, 3, 0, 1, 0), (25, .goto (-20), 3, 5, 0, 0), (28, .aload_n 0, 1, 0, 0, 0), (29, .iload_n 1, 1, 0, 0, 0), (30, .invokevirtual 121, 3, 126, 0, 0), (33, .istore 4, 2, 0, 0, 0), (35, .iconst 0, 1, 0, 0, 0), (36, .istore 5, 2, 0, 0, 0), (38, .ldc2_w 182, 3, 0, 0, (-1)), (41, .lstore 6, 2, 0, 0, 0), (43, .iconst 0, 1, 0, 0, 0), (44, .istore 8, 2, 0, 0, 0), (46, .iload 8, 2, 0, 0, 0), (48, .iload_n 3, 1, 0, 0, 0), (49, .if_icmp .ge 50, 3, 99, 0, 0), (52, .iload 4, 2, 0, 0, 0), (54, .iload 8, 2, 0, 0, 0), (56, .invokestatic 354, 3, 138, 0, 0), (59, .ifCond .eq 13, 3, 72, 0, 0), (62, .aload_n 0, 1, 0, 0, 0), (63, .iload_n 1, 1, 0, 0, 0), (64, .iload 8, 2, 0, 0, 0), (66, .invokevirtual 209, 3, 139, 0, 0), (69, .goto 6, 3, 75, 0, 0), (72, .ldc2_w 182, 3, 0, 0, (-1)), (75, .lstore 9, 2, 0, 0, 0), (77, .lload 9, 2, 0, 0, 0), (79, .lload 6, 2, 0, 0, 0), (81, .lcmp, 1, 0, 0, 0), (82, .ifCond .le 11, 3, 93, 0, 0), (85, .iload 8, 2, 0, 0, 0), (87, .istore 5, 2, 0, 0, 0), (89, .lload 9, 2, 0, 0, 0), (91, .lstore 6, 2, 0, 0, 0), (93, .iinc 8 1, 3, 0, 1, 0), (96, .goto (-50), 3, 46, 0, 0), (99, .iload 5, 2, 0, 0, 0), (101, .ireturn, 1, 0, 0, 0)]
/-- LastAsked.mayBeFirst(II)Z -/
def xc_138 : List xCe := [(0, .bipush 9, 2, 0, 9, 0), (2, .istore_n 2, 1, 0, 0, 0), (3, .iload_n 1, 1, 0, 0, 0), (4, .istore_n 3, 1, 0, 0, 0), (5, .iload_n 3, 1, 0, 0, 0), (6, .ifCond .le 44, 3, 50, 0, 0), (9, .iload_n 3, 1, 0, 0, 0), (10, .bipush 10, 2, 0, 10, 0), (12, .irem, 1, 0, 0, 0), (13, .istore 4, 2, 0, 0, 0), (15, .iload 4, 2, 0, 0, 0), (17, .iload_n 2, 1, 0, 0, 0), (18, .if_icmp .gt 19, 3, 37, 0, 0), (21, .iload 4, 2, 0, 0, 0), (23, .ifCond .eq 16, 3, 39, 0, 0), (26, .iload_n 0, 1, 0, 0, 0), (27, .iload 4, 2, 0, 0, 0), (29, .iconst 1, 1, 0, 1, 0), (30, .isub, 1, 0, 0, 0), (31, .invokestatic 170, 3, 124, 0, 0), (34, .ifCond .ne 5, 3, 39, 0, 0), (37, .iconst 0, 1, 0, 0, 0), (38, .ireturn, 1, 0, 0, 0), (39, .iload 4, 2, 0, 0, 0), (41, .istore_n 2, 1, 0, 0, 0), (42, .iload_n 3, 1, 0, 0, 0), (43, .bipush 10, 2, 0, 10, 0), (45, .idiv, 1, 0, 0, 0), (46, .istore_n 3, 1, 0, 0, 0), (47, .goto (-42), 3, 5, 0, 0), (50, .iconst 1, 1, 0, 1, 0), (51, .ireturn, 1, 0, 0, 0)]
/-- LastAsked.meanByRow(II)J -/
def xc_139 : List xCe := [(0, .aload_n 0, 1, 0, 0, 0), (1, .getfield 30, 3, 703, 0, 0), (4, .aload_n 0, 1, 0, 0, 0), (5, .getfield 26, 3, 702, 0, 0), (8, .invokevirtual 275, 3, 47, 0, 0), (11, .bipush 100, 2, 0, 100, 0), (13, .istore_n 3, 1, 0, 0, 0), (14, .iload_n 3, 1, 0, 0, 0), (15, .ifCond .le 51, 3, 66, 0, 0), (18, .iload_n 2, 1, 0, 0, 0), (19, .iload_n 3, 1, 0, 0, 0), (20, .idiv, 1, 0, 0, 0), (21, .bipush 10, 2, 0, 10, 0), (23, .irem, 1, 0, 0, 0), (24, .istore 4, 2, 0, 0, 0), (26, .iload 4, 2, 0, 0, 0), (28, .ifCond .le 30, 3, 58, 0, 0), (31, .iload 4, 2, 0, 0, 0), (33, .bipush 6, 2, 0, 6, 0), (35, .if_icmp .gt 23, 3, 58, 0, 0), (38, .aload_n 0, 1, 0, 0, 0), (39, .getfield 30, 3, 703, 0, 0), (42, .iload_n 1, 1, 0, 0, 0), (43, .iload 4, 2, 0, 0, 0), (45, .iconst 1, 1, 0, 1, 0), (46, .isub, 1, 0, 0, 0), (47, .aload_n 0, 1, 0, 0, 0), (48, .getfield 19, 3, 701, 0, 0), (51, .getfield 291, 3, 1, 0, 0), (54, .invokevirtual 294, 3, 49, 0, 0), (57, .pop, 1, 0, 0, 0), (58, .iload_n 3, 1, 0, 0, 0), (59, .bipush 10, 2, 0, 10, 0), (61, .idiv, 1, 0, 0, 0), (62, .istore_n 3, 1, 0, 0, 0), (63, .goto (-49), 3, 14, 0, 0), (66, .aload_n 0, 1, 0, 0, 0), (67, .iload_n 1, 1, 0, 0, 0), (68, .aload_n 0, 1, 0, 0, 0), (69, .getfield 30, 3, 703, 0, 0), (72, .invokevirtual 184, 3, 133, 0, 0), (75, .lreturn, 1, 0, 0, 0)]
/-- LastAsked.bestTour(II)I -/
def xc_140 : List xCe := [(0, .aload_n 0, 1, 0, 0, 0), (1, .getfield 50, 3, 706, 0, 0), (4, .iload_n 1, 1, 0, 0, 0), (5, .aload_n 0, 1, 0, 0, 0), (6, .getfield 19, 3, 701, 0, 0), (9, .getfield 218, 3, 13, 0, 0), (12, .invokevirtual 357, 3, 53, 0, 0), (15, .aload_n 0, 1, 0, 0, 0), (16, .iload_n 1, 1, 0, 0, 0), (17, .invokevirtual 121, 3, 126, 0, 0), (20, .istore_n 3, 1, 0, 0, 0), (21, .iconst 0, 1, 0, 0, 0), (22, .istore 4, 2, 0, 0, 0), (24, .ldc2_w 182, 3, 0, 0, (-1)), (27, .lstore 5, 2, 0, 0, 0), (29, .iconst 0, 1, 0, 0, 0), (30, .istore 7, 2, 0, 0, 0), (32, .iload 7, 2, 0, 0, 0), (34, .bipush 64, 2, 0, 64, 0), (36, .if_icmp .ge 74, 3, 110, 0, 0), (39, .iload 7, 2, 0, 0, 0), (41, .iload_n 3, 1, 0, 0, 0), (42, .iconst (-1), 1, 0, (-1), 0), (43, .ixor, 1, 0, 0, 0), (44, .iand, 1, 0, 0, 0), (45, .ifCond .ne 20, 3, 65, 0, 0), (48, .aload_n 0, 1, 0, 0, 0), (49, .getfield 50, 3, 706, 0, 0), (52, .iload 7, 2, 0, 0, 0), (54, .invokevirtual 215, 3, 55, 0, 0), (57, .iload_n 2, 1, 0, 0, 0), (58, .if_icmp .gt 7, 3, 65, 0, 0), (61, .iconst 1, 1, 0, 1, 0), (62, .goto 4, 3, 66, 0, 0), (65, .iconst 0, 1, 0, 0, 0), (66, .istore 8, 2, 0, 0, 0), (68, .iload 8, 2, 0, 0, 0), (70, .ifCond .eq 13, 3, 83, 0, 0), (73, .aload_n 0, 1, 0, 0, 0), (74, .iload_n 1, 1, 0, 0, 0), (75, .iload 7, 2, 0, 0, 0), (77, .invokevirtual 361, 3, 141, 0, 0), (80, .goto 6, 3, 86, 0, 0), (83, .ldc2_w 182, 3, 0, 0, (-1)), (86, .lstore 9, 2, 0, 0, 0), (88, .lload 9, 2, 0, 0, 0), (90, .lload 5, 2, 0, 0, 0), (92, .lcmp, 1, 0, 0, 0), (93, .ifCond .le 11, 3, 104, 0, 0), (96, .iload 7, 2, 0, 0, 0), (98, .istore 4, 2, 0, 0, 0), (100, .lload 9, 2, 0, 0, 0), (102, .lstore 5, 2, 0, 0, 0), (104, .iinc 7 1, 3, 0, 1, 0), (107, .goto (-75), 3, 32, 0, 0), (110, .iload 4, 2, 0, 0, 0), (112, .ireturn, 1, 0, 0, 0)]
/-- LastAsked.meanByTour(II)J -/
def xc_141 : List xCe := [(0, .aload_n 0, 1, 0, 0, 0), (1, .getfield 30, 3, 703, 0, 0), (4, .aload_n 0, 1, 0, 0, 0), (5, .getfield 26, 3, 702, 0, 0), (8, .invokevirtual 275, 3, 47, 0, 0), (11, .iconst 0, 1, 0, 0, 0), (12, .istore_n 3, 1, 0, 0, 0), (13, .iload_n 3, 1, 0, 0, 0), (14, .bipush 6, 2, 0, 6, 0), (16, .if_icmp .ge 34, 3, 50, 0, 0), (19, .iload_n 2, 1, 0, 0, 0), (20, .iload_n 3, 1, 0, 0, 0), (21, .invokestatic 170, 3, 124, 0, 0), (24, .ifCond .eq 20, 3, 44, 0, 0), (27, .aload_n 0, 1, 0, 0, 0), (28, .getfield 30, 3, 703, 0, 0), (31, .iload_n 1, 1, 0, 0, 0), (32, .iload_n 3, 1, 0, 0, 0), (33, .aload_n 0, 1, 0, 0, 0), (34, .getfield 19, 3, 701, 0, 0), (37, .getfield 291, 3, 1, 0, 0), (40, .invokevirtual 294, 3, 49, 0, 0), (43, .pop, 1, 0, 0, 0), (44, .iinc 3 1, 3, 0, 1, 0), (47, .goto (-34), 3, 13, 0, 0), (50, .aload_n 0, 1, 0, 0, 0), (51, .iload_n 1, 1, 0, 0, 0), (52, .aload_n 0, 1, 0, 0, 0), (53, .getfield 30, 3, 703, 0, 0), (56, .invokevirtual 184, 3, 133, 0, 0), (59, .lreturn, 1, 0, 0, 0)]
/-- LastAsked.payoff(IZZZ)I -/
def xc_142 : List xCe := [(0, .iload_n 2, 1, 0, 0, 0), (1, .ifCond .ne 17, 3, 18, 0, 0), (4, .iload_n 1, 1, 0, 0, 0), (5, .ifCond .eq 11, 3, 16, 0, 0), (8, .iload_n 3, 1, 0, 0, 0), (9, .ifCond .ne 7, 3, 16, 0, 0), (12, .iconst 1, 1, 0, 1, 0), (13, .goto 4, 3, 17, 0, 0), (16, .iconst 0, 1, 0, 0, 0), (17, .ireturn, 1, 0, 0, 0), (18, .iload_n 1, 1, 0, 0, 0), (19, .ifCond .eq 14, 3, 33, 0, 0), (22, .iload_n 3, 1, 0, 0, 0), (23, .ifCond .eq 7, 3, 30, 0, 0), (26, .iconst 4, 1, 0, 4, 0), (27, .goto 5, 3, 32, 0, 0), (30, .bipush (-2), 2, 0, (-2), 0), (32, .ireturn, 1, 0, 0, 0), (33, .iload_n 3, 1, 0, 0, 0), (34, .ifCond .eq 7, 3, 41, 0, 0), (37, .iconst (-1), 1, 0, (-1), 0), (38, .goto 5, 3, 43, 0, 0), (41, .iload_n 0, 1, 0, 0, 0), (42, .ineg, 1, 0, 0, 0), (43, .ireturn, 1, 0, 0, 0)]
/-- LastAsked.isRest(IZZ)Z -/
def xc_143 : List xCe := [(0, .iload_n 0, 1, 0, 0, 0), (1, .iload_n 1, 1, 0, 0, 0), (2, .iload_n 2, 1, 0, 0, 0), (3, .iconst 0, 1, 0, 0, 0), (4, .invokestatic 260, 3, 142, 0, 0), (7, .iload_n 0, 1, 0, 0, 0), (8, .iload_n 1, 1, 0, 0, 0), (9, .ifCond .ne 7, 3, 16, 0, 0), (12, .iconst 1, 1, 0, 1, 0), (13, .goto 4, 3, 17, 0, 0), (16, .iconst 0, 1, 0, 0, 0), (17, .iload_n 2, 1, 0, 0, 0), (18, .iconst 0, 1, 0, 0, 0), (19, .invokestatic 260, 3, 142, 0, 0), (22, .if_icmp .lt 32, 3, 54, 0, 0), (25, .iload_n 0, 1, 0, 0, 0), (26, .iload_n 1, 1, 0, 0, 0), (27, .iload_n 2, 1, 0, 0, 0), (28, .iconst 1, 1, 0, 1, 0), (29, .invokestatic 260, 3, 142, 0, 0), (32, .iload_n 0, 1, 0, 0, 0), (33, .iload_n 1, 1, 0, 0, 0), (34, .iload_n 2, 1, 0, 0, 0), (35, .ifCond .ne 7, 3, 42, 0, 0), (38, .iconst 1, 1, 0, 1, 0), (39, .goto 4, 3, 43, 0, 0), (42, .iconst 0, 1, 0, 0, 0), (43, .iconst 1, 1, 0, 1, 0), (44, .invokestatic 260, 3, 142, 0, 0), (47, .if_icmp .lt 7, 3, 54, 0, 0), (50, .iconst 1, 1, 0, 1, 0), (51, .goto 4, 3, 55, 0, 0), (54, .iconst 0, 1, 0, 0, 0), (55, .ireturn, 1, 0, 0, 0)]
/-- LastAsked.sleep(II)V -/
def xc_144 : List xCe := [(0, .aload_n 0, 1, 0, 0, 0), (1, .getfield 30, 3, 703, 0, 0), (4, .aload_n 0, 1, 0, 0, 0), (5, .getfield 26, 3, 702, 0, 0), (8, .invokevirtual 275, 3, 47, 0, 0), (11, .aload_n 0, 1, 0, 0, 0), (12, .getfield 30, 3, 703, 0, 0), (15, .iload_n 1, 1, 0, 0, 0), (16, .putfield 278, 3, 401, 0, 0), (19, .iconst 0, 1, 0, 0, 0), (20, .istore_n 3, 1, 0, 0, 0), (21, .iload_n 3, 1, 0, 0, 0), (22, .iload_n 2, 1, 0, 0, 0), (23, .if_icmp .ge 18, 3, 41, 0, 0), (26, .aload_n 0, 1, 0, 0, 0), (27, .aload_n 0, 1, 0, 0, 0), (28, .getfield 30, 3, 703, 0, 0), (31, .invokevirtual 281, 3, 145, 0, 0), (34, .pop, 1, 0, 0, 0), (35, .iinc 3 1, 3, 0, 1, 0), (38, .goto (-17), 3, 21, 0, 0), (41, .return_, 1, 0, 0, 0)]
/-- LastAsked.passNight(LLastAsked$State;)I -/
def xc_145 : List xCe := [(0, .iconst 0, 1, 0, 0, 0), (1, .istore_n 2, 1, 0, 0, 0), (2, .iconst 0, 1, 0, 0, 0), (3, .istore_n 3, 1, 0, 0, 0), (4, .iload_n 3, 1, 0, 0, 0), (5, .bipush 6, 2, 0, 6, 0), (7, .if_icmp .ge 42, 3, 49, 0, 0), (10, .aload_n 1, 1, 0, 0, 0), (11, .iload_n 3, 1, 0, 0, 0), (12, .invokevirtual 115, 3, 48, 0, 0), (15, .ifCond .eq 28, 3, 43, 0, 0), (18, .aload_n 1, 1, 0, 0, 0), (19, .invokevirtual 364, 3, 50, 0, 0), (22, .bipush 100, 2, 0, 100, 0), (24, .irem, 1, 0, 0, 0), (25, .aload_n 0, 1, 0, 0, 0), (26, .getfield 19, 3, 701, 0, 0), (29, .getfield 112, 3, 9, 0, 0), (32, .iload_n 3, 1, 0, 0, 0), (33, .iaload, 1, 0, 0, 0), (34, .if_icmp .ge 9, 3, 43, 0, 0), (37, .iload_n 2, 1, 0, 0, 0), (38, .iconst 1, 1, 0, 1, 0), (39, .iload_n 3, 1, 0, 0, 0), (40, .ishl, 1, 0, 0, 0), (41, .ior, 1, 0, 0, 0), (42, .istore_n 2, 1, 0, 0, 0), (43, .iinc 3 1, 3, 0, 1, 0), (46, .goto (-42), 3, 4, 0, 0), (49, .aload_n 0, 1, 0, 0, 0), (50, .getfield 43, 3, 705, 0, 0), (53, .aload_n 1, 1, 0, 0, 0), (54, .getfield 131, 3, 406, 0, 0), (57, .aload_n 1, 1, 0, 0, 0), (58, .getfield 161, 3, 404, 0, 0), (61, .invokevirtual 250, 3, 57, 0, 0), (64, .aload_n 1, 1, 0, 0, 0), (65, .iload_n 2, 1, 0, 0, 0), (66, .aload_n 0, 1, 0, 0, 0), (67, .getfield 43, 3, 705, 0, 0), (70, .invokevirtual 298, 3, 51, 0, 0), (73, .iload_n 2, 1, 0, 0, 0), (74, .ireturn, 1, 0, 0, 0)]
/-- LastAskedModel$City.<init>()V -/
def xc_146 : List xCe := [(0, .aload_n 0, 1, 0, 0, 0), (1, .invokespecial 3, 3, 9000, 0, 0), (4, .aload_n 0, 1, 0, 0, 0), (5, .iconst (-1), 1, 0, (-1), 0), (6, .putfield 9, 3, 800, 0, 0), (9, .aload_n 0, 1, 0, 0, 0), (10, .bipush 6, 2, 0, 6, 0), (12, .newarray .int, 2, 11, 0, 0), (14, .putfield 15, 3, 807, 0, 0), (17, .aload_n 0, 1, 0, 0, 0), (18, .bipush 6, 2, 0, 6, 0), (20, .newarray .int, 2, 11, 0, 0), (22, .putfield 19, 3, 808, 0, 0), (25, .aload_n 0, 1, 0, 0, 0), (26, .bipush 6, 2, 0, 6, 0), (28, .newarray .int, 2, 11, 0, 0), (30, .putfield 22, 3, 809, 0, 0), (33, .aload_n 0, 1, 0, 0, 0), (34, .bipush 6, 2, 0, 6, 0), (36, .newarray .int, 2, 11, 0, 0), (38, .putfield 25, 3, 810, 0, 0), (41, .aload_n 0, 1, 0, 0, 0), (42, .bipush 6, 2, 0, 6, 0), (44, .newarray .int, 2, 11, 0, 0), (46, .putfield 28, 3, 811, 0, 0), (49, .aload_n 0, 1, 0, 0, 0), (50, .bipush 36, 2, 0, 36, 0), (52, .newarray .int, 2, 11, 0, 0), (54, .putfield 31, 3, 812, 0, 0), (57, .aload_n 0, 1, 0, 0, 0), (58, .iconst 3, 1, 0, 3, 0), (59, .newarray .int, 2, 11, 0, 0), (61, .putfield 34, 3, 813, 0, 0), (64, .aload_n 0, 1, 0, 0, 0), (65, .iconst 3, 1, 0, 3, 0), (66, .newarray .int, 2, 11, 0, 0), (68, .putfield 37, 3, 814, 0, 0), (71, .aload_n 0, 1, 0, 0, 0), (72, .iconst 3, 1, 0, 3, 0), (73, .newarray .int, 2, 11, 0, 0), (75, .putfield 40, 3, 815, 0, 0), (78, .aload_n 0, 1, 0, 0, 0), (79, .bipush 6, 2, 0, 6, 0), (81, .newarray .long, 2, 12, 0, 0), (83, .putfield 43, 3, 816, 0, 0), (86, .iconst 0, 1, 0, 0, 0), (87, .istore_n 1, 1, 0, 0, 0), (88, .iload_n 1, 1, 0, 0, 0), (89, .bipush 36, 2, 0, 36, 0), (91, .if_icmp .ge 16, 3, 107, 0, 0), (94, .aload_n 0, 1, 0, 0, 0), (95, .getfield 31, 3, 812, 0, 0), (98, .iload_n 1, 1, 0, 0, 0), (99, .iconst (-1), 1, 0, (-1), 0), (100, .iastore, 1, 0, 0, 0), (101, .iinc 1 1, 3, 0, 1, 0), (104, .goto (-16), 3, 88, 0, 0), (107, .iconst 0, 1, 0, 0, 0), (108, .istore_n 1, 1, 0, 0, 0), (109, .iload_n 1, 1, 0, 0, 0), (110, .bipush 6, 2, 0, 6, 0), (112, .if_icmp .ge 16, 3, 128, 0, 0), (115, .aload_n 0, 1, 0, 0, 0), (116, .getfield 28, 3, 811, 0, 0), (119, .iload_n 1, 1, 0, 0, 0), (120, .iconst (-1), 1, 0, (-1), 0), (121, .iastore, 1, 0, 0, 0), (122, .iinc 1 1, 3, 0, 1, 0), (125, .goto (-16), 3, 109, 0, 0), (128, .return_, 1, 0, 0, 0)]
/-- LastAskedModel$City.find(J)I -/
def xc_147 : List xCe := [(0, .iconst 0, 1, 0, 0, 0), (1, .istore_n 3, 1, 0, 0, 0), (2, .iload_n 3, 1, 0, 0, 0), (3, .aload_n 0, 1, 0, 0, 0), (4, .getfield 47, 3, 802, 0, 0), (7, .if_icmp .ge 22, 3, 29, 0, 0), (10, .aload_n 0, 1, 0, 0, 0), (11, .getfield 43, 3, 816, 0, 0), (14, .iload_n 3, 1, 0, 0, 0), (15, .laload, 1, 0, 0, 0), (16, .lload_n 1, 1, 0, 0, 0), (17, .lcmp, 1, 0, 0, 0), (18, .ifCond .ne 5, 3, 23, 0, 0), (21, .iload_n 3, 1, 0, 0, 0), (22, .ireturn, 1, 0, 0, 0), (23, .iinc 3 1, 3, 0, 1, 0), (26, .goto (-24), 3, 2, 0, 0), (29, .iconst (-1), 1, 0, (-1), 0), (30, .ireturn, 1, 0, 0, 0)]
/-- LastAskedModel$City.mayAsk(II)Z -/
def xc_148 : List xCe := [(0, .aload_n 0, 1, 0, 0, 0), (1, .getfield 15, 3, 807, 0, 0), (4, .iload_n 1, 1, 0, 0, 0), (5, .iaload, 1, 0, 0, 0), (6, .iconst 3, 1, 0, 3, 0), (7, .if_icmp .eq 40, 3, 47, 0, 0), (10, .aload_n 0, 1, 0, 0, 0), (11, .getfield 15, 3, 807, 0, 0), (14, .iload_n 2, 1, 0, 0, 0), (15, .iaload, 1, 0, 0, 0), (16, .iconst 1, 1, 0, 1, 0), (17, .if_icmp .eq 30, 3, 47, 0, 0), (20, .aload_n 0, 1, 0, 0, 0), (21, .getfield 15, 3, 807, 0, 0), (24, .iload_n 2, 1, 0, 0, 0), (25, .iaload, 1, 0, 0, 0), (26, .iconst 2, 1, 0, 2, 0), (27, .if_icmp .ne 16, 3, 43, 0, 0), (30, .aload_n 0, 1, 0, 0, 0), (31, .getfield 25, 3, 810, 0, 0), (34, .iload_n 2, 1, 0, 0, 0), (35, .iaload, 1, 0, 0, 0), (36, .iload_n 1, 1, 0, 0, 0), (37, .invokestatic 50, 3, 157, 0, 0), (40, .ifCond .eq 7, 3, 47, 0, 0), (43, .iconst 1, 1, 0, 1, 0), (44, .goto 4, 3, 48, 0, 0), (47, .iconst 0, 1, 0, 0, 0), (48, .ireturn, 1, 0, 0, 0)]
/-- LastAskedModel.<init>()V -/
def xc_149 : List xCe := [(0, .aload_n 0, 1, 0, 0, 0), (1, .invokespecial 3, 3, 9000, 0, 0), (4, .aload_n 0, 1, 0, 0, 0), (5, .iconst (-1), 1, 0, (-1), 0), (6, .putfield 9, 3, 902, 0, 0), (9, .aload_n 0, 1, 0, 0, 0), (10, .sipush 900, 3, 0, 900, 0), (13, .newarray .byte, 2, 10, 0, 0), (15, .putfield 13, 3, 905, 0, 0), (18, .aload_n 0, 1, 0, 0, 0), (19, .bipush 47, 2, 0, 47, 0), (21, .newarray .int, 2, 11, 0, 0), (23, .putfield 17, 3, 916, 0, 0), (26, .aload_n 0, 1, 0, 0, 0), (27, .bipush 47, 2, 0, 47, 0), (29, .newarray .int, 2, 11, 0, 0), (31, .putfield 21, 3, 917, 0, 0), (34, .aload_n 0, 1, 0, 0, 0), (35, .sipush 752, 3, 0, 752, 0), (38, .newarray .int, 2, 11, 0, 0), (40, .putfield 24, 3, 918, 0, 0), (43, .aload_n 0, 1, 0, 0, 0), (44, .sipush 141, 3, 0, 141, 0), (47, .newarray .int, 2, 11, 0, 0), (49, .putfield 27, 3, 919, 0, 0), (52, .aload_n 0, 1, 0, 0, 0), (53, .bipush 6, 2, 0, 6, 0), (55, .newarray .int, 2, 11, 0, 0), (57, .putfield 30, 3, 922, 0, 0), (60, .aload_n 0, 1, 0, 0, 0), (61, .bipush 6, 2, 0, 6, 0), (63, .newarray .int, 2, 11, 0, 0), (65, .putfield 33, 3, 923, 0, 0), (68, .aload_n 0, 1, 0, 0, 0), (69, .bipush 64, 2, 0, 64, 0), (71, .newarray .int, 2, 11, 0, 0), (73, .putfield 36, 3, 927, 0, 0), (76, .aload_n 0, 1, 0, 0, 0), (77, .bipush 64, 2, 0, 64, 0), (79, .newarray .int, 2, 11, 0, 0), (81, .putfield 39, 3, 928, 0, 0), (84, .aload_n 0, 1, 0, 0, 0), (85, .iconst 3, 1, 0, 3, 0), (86, .newarray .int, 2, 11, 0, 0), (88, .putfield 42, 3, 930, 0, 0), (91, .aload_n 0, 1, 0, 0, 0), (92, .bipush 21, 2, 0, 21, 0), (94, .newarray .int, 2, 11, 0, 0), (96, .putfield 45, 3, 931, 0, 0), (99, .aload_n 0, 1, 0, 0, 0), (100, .bipush 36, 2, 0, 36, 0), (102, .newarray .int, 2, 11, 0, 0), (104, .putfield 48, 3, 932, 0, 0), (107, .return_, 1, 0, 0, 0)]
/-- LastAskedModel.thrown()I -/
def xc_150 : List xCe := [(0, .aload_n 0, 1, 0, 0, 0), (1, .getfield 51, 3, 900, 0, 0), (4, .ireturn, 1, 0, 0, 0)]
/-- LastAskedModel.refused(I)I -/
def xc_151 : List xCe := [(0, .aload_n 0, 1, 0, 0, 0), (1, .iload_n 1, 1, 0, 0, 0), (2, .putfield 54, 3, 901, 0, 0), (5, .aload_n 0, 1, 0, 0, 0), (6, .iconst (-1), 1, 0, (-1), 0), (7, .putfield 9, 3, 902, 0, 0), (10, .iconst (-1), 1, 0, (-1), 0), (11, .ireturn, 1, 0, 0, 0)]
/-- LastAskedModel.lost(I)I -/
def xc_152 : List xCe := [(0, .aload_n 0, 1, 0, 0, 0), (1, .iload_n 1, 1, 0, 0, 0), (2, .invokevirtual 57, 3, 151, 0, 0), (5, .pop, 1, 0, 0, 0), (6, .bipush (-100), 2, 0, (-100), 0), (8, .ireturn, 1, 0, 0, 0)]
/-- LastAskedModel.denied(I)Z -/
def xc_153 : List xCe := [(0, .aload_n 0, 1, 0, 0, 0), (1, .iload_n 1, 1, 0, 0, 0), (2, .invokevirtual 57, 3, 151, 0, 0), (5, .pop, 1, 0, 0, 0), (6, .iconst 0, 1, 0, 0, 0), (7, .ireturn, 1, 0, 0, 0)]
/-- LastAskedModel.good(I)I -/
def xc_154 : List xCe := [(0, .aload_n 0, 1, 0, 0, 0), (1, .iconst 0, 1, 0, 0, 0), (2, .putfield 54, 3, 901, 0, 0), (5, .aload_n 0, 1, 0, 0, 0), (6, .iconst (-1), 1, 0, (-1), 0), (7, .putfield 9, 3, 902, 0, 0), (10, .iload_n 1, 1, 0, 0, 0), (11, .ireturn, 1, 0, 0, 0)]
/-- LastAskedModel.granted()Z -/
def xc_155 : List xCe := [(0, .aload_n 0, 1, 0, 0, 0), (1, .iconst 0, 1, 0, 0, 0), (2, .invokevirtual 61, 3, 154, 0, 0), (5, .pop, 1, 0, 0, 0), (6, .iconst 1, 1, 0, 1, 0), (7, .ireturn, 1, 0, 0, 0)]
/-- LastAskedModel.in(III)Z -/
def xc_156 : List xCe := [(0, .iload_n 0, 1, 0, 0, 0), (1, .iload_n 1, 1, 0, 0, 0), (2, .if_icmp .lt 12, 3, 14, 0, 0), (5, .iload_n 0, 1, 0, 0, 0), (6, .iload_n 2, 1, 0, 0, 0), (7, .if_icmp .gt 7, 3, 14, 0, 0), (10, .iconst 1, 1, 0, 1, 0), (11, .goto 4, 3, 15, 0, 0), (14, .iconst 0, 1, 0, 0, 0), (15, .ireturn, 1, 0, 0, 0)]
/-- LastAskedModel.bit(II)Z -/
def xc_157 : List xCe := [(0, .iload_n 0, 1, 0, 0, 0), (1, .iload_n 1, 1, 0, 0, 0), (2, .ishr, 1, 0, 0, 0), (3, .iconst 1, 1, 0, 1, 0), (4, .iand, 1, 0, 0, 0), (5, .iconst 1, 1, 0, 1, 0), (6, .if_icmp .ne 7, 3, 13, 0, 0), (9, .iconst 1, 1, 0, 1, 0), (10, .goto 4, 3, 14, 0, 0), (13, .iconst 0, 1, 0, 0, 0), (14, .ireturn, 1, 0, 0, 0)]
/-- LastAskedModel.bits(I)I -/
def xc_158 : List xCe := [(0, .iconst 0, 1, 0, 0, 0), (1, .istore_n 1, 1, 0, 0, 0), (2, .iload_n 0, 1, 0, 0, 0), (3, .istore_n 2, 1, 0, 0, 0), (4, .iload_n 2, 1, 0, 0, 0), (5, .ifCond .eq 15, 3, 20, 0, 0), (8, .iinc 1 1, 3, 0, 1, 0), (11, .iload_n 2, 1, 0, 0, 0), (12, .iload_n 2, 1, 0, 0, 0), (13, .iconst 1, 1, 0, 1, 0), (14, .isub, 1, 0, 0, 0), (15, .iand, 1, 0, 0, 0), (16, .istore_n 2, 1, 0, 0, 0), (17, .goto (-13), 3, 4, 0, 0), (20, .iload_n 1, 1, 0, 0, 0), (21, .ireturn, 1, 0, 0, 0)]
/-- LastAskedModel.common(JJ)J -/
def xc_159 : List xCe := [(0, .lload_n 0, 1, 0, 0, 0), (1, .lstore 4, 2, 0, 0, 0), (3, .lload_n 2, 1, 0, 0, 0), (4, .lstore 6, 2, 0, 0, 0), (6, .lload 6, 2, 0, 0, 0), (8, .lconst 0, 1, 0, 0, 0), (9, .lcmp, 1, 0, 0, 0), (10, .ifCond .eq 21, 3, 31, 0, 0), (13, .lload 4, 2, 0, 0, 0), (15, .lload 6, 2, 0, 0, 0), (17, .lrem, 1, 0, 0, 0), (18, .lstore 8, 2, 0, 0, 0), (20, .lload 6, 2, 0, 0, 0), (22, .lstore 4, 2, 0, 0, 0), (24, .lload 8, 2, 0, 0, 0), (26, .lstore 6, 2, 0, 0, 0), (28, .goto (-22), 3, 6, 0, 0), (31, .lload 4, 2, 0, 0, 0), (33, .lreturn, 1, 0, 0, 0)]
/-- LastAskedModel.fraction(JJZ)J -/
def xc_160 : List xCe := [(0, .aload_n 0, 1, 0, 0, 0), (1, .iconst 0, 1, 0, 0, 0), (2, .invokevirtual 61, 3, 154, 0, 0), (5, .pop, 1, 0, 0, 0), (6, .iload 5, 2, 0, 0, 0), (8, .ifCond .eq 7, 3, 15, 0, 0), (11, .lload_n 3, 1, 0, 0, 0), (12, .goto 4, 3, 16, 0, 0), (15, .lload_n 1, 1, 0, 0, 0), (16, .lload_n 1, 1, 0, 0, 0), (17, .lload_n 3, 1, 0, 0, 0), (18, .invokestatic 64, 3, 159, 0, 0), (21, .ldiv, 1, 0, 0, 0), (22, .lreturn, 1, 0, 0, 0)]
/-- LastAskedModel.byteAt(I)I -/
def xc_161 : List xCe := [(0, .iload_n 1, 1, 0, 0, 0), (1, .aload_n 0, 1, 0, 0, 0), (2, .getfield 68, 3, 907, 0, 0), (5, .if_icmp .ge 16, 3, 21, 0, 0), (8, .aload_n 0, 1, 0, 0, 0), (9, .getfield 13, 3, 905, 0, 0), (12, .iload_n 1, 1, 0, 0, 0), (13, .baload, 1, 0, 0, 0), (14, .sipush 255, 3, 0, 255, 0), (17, .iand, 1, 0, 0, 0), (18, .goto 4, 3, 22, 0, 0), (21, .iconst (-1), 1, 0, (-1), 0), (22, .ireturn, 1, 0, 0, 0)]
/-- LastAskedModel.isLetter(I)Z -/
def xc_162 : List xCe := [(0, .iload_n 0, 1, 0, 0, 0), (1, .bipush 97, 2, 0, 97, 0), (3, .if_icmp .lt 13, 3, 16, 0, 0), (6, .iload_n 0, 1, 0, 0, 0), (7, .bipush 122, 2, 0, 122, 0), (9, .if_icmp .gt 7, 3, 16, 0, 0), (12, .iconst 1, 1, 0, 1, 0), (13, .goto 4, 3, 17, 0, 0), (16, .iconst 0, 1, 0, 0, 0), (17, .ireturn, 1, 0, 0, 0)]
/-- LastAskedModel.isDigit(I)Z -/
def xc_163 : List xCe := [(0, .iload_n 0, 1, 0, 0, 0), (1, .bipush 48, 2, 0, 48, 0), (3, .if_icmp .lt 13, 3, 16, 0, 0), (6, .iload_n 0, 1, 0, 0, 0), (7, .bipush 57, 2, 0, 57, 0), (9, .if_icmp .gt 7, 3, 16, 0, 0), (12, .iconst 1, 1, 0, 1, 0), (13, .goto 4, 3, 17, 0, 0), (16, .iconst 0, 1, 0, 0, 0), (17, .ireturn, 1, 0, 0, 0)]
def xc_164 : List xCe := []
/-- LastAskedModel.goesOn()V -/
def xc_165 : List xCe := [(0, .aload_n 0, 1, 0, 0, 0), (1, .getfield 83, 3, 909, 0, 0), (4, .iconst 5, 1, 0, 5, 0), (5, .if_icmp .ne 4, 3, 9, 0, 0), (8, .return_, 1, 0, 0, 0), (9, .aload_n 0, 1, 0, 0, 0), (10, .aload_n 0, 1, 0, 0, 0), (11, .getfield 86, 3, 908, 0, 0), (14, .invokevirtual 89, 3, 161, 0, 0), (17, .bipush 32, 2, 0, 32, 0), (19, .if_icmp .ne 16, 3, 35, 0, 0), (22, .aload_n 0, 1, 0, 0, 0), (23, .dup, 1, 0, 0, 0), (24, .getfield 86, 3, 908, 0, 0), (27, .iconst 1, 1, 0, 1, 0), (28, .iadd, 1, 0, 0, 0), (29, .putfield 86, 3, 908, 0, 0), (32, .goto (-23), 3, 9, 0, 0), (35, .aload_n 0, 1, 0, 0, 0), (36, .aload_n 0, 1, 0, 0, 0), (37, .getfield 86, 3, 908, 0, 0), (40, .putfield 92, 3, 910, 0, 0), (43, .aload_n 0, 1, 0, 0, 0), (44, .iconst 0, 1, 0, 0, 0), (45, .putfield 83, 3, 909, 0, 0), (48, .aload_n 0, 1, 0, 0, 0), (49, .aload_n 0, 1, 0, 0, 0), (50, .getfield 86, 3, 908, 0, 0), (53, .invokevirtual 89, 3, 161, 0, 0), (56, .istore_n 1, 1, 0, 0, 0), (57, .iconst 0, 1, 0, 0, 0), (58, .istore_n 2, 1, 0, 0, 0), (59, .iload_n 1, 1, 0, 0, 0), (60, .iconst (-1), 1, 0, (-1), 0), (61, .if_icmp .ne 11, 3, 72, 0, 0), (64, .aload_n 0, 1, 0, 0, 0), (65, .iconst 1, 1, 0, 1, 0), (66, .putfield 83, 3, 909, 0, 0), (69, .goto 196, 3, 265, 0, 0), (72, .iload_n 1, 1, 0, 0, 0), (73, .invokestatic 95, 3, 162, 0, 0), (76, .ifCond .eq 85, 3, 161, 0, 0), (79, .aload_n 0, 1, 0, 0, 0), (80, .lconst 0, 1, 0, 0, 0), (81, .putfield 99, 3, 914, 0, 0), (84, .aload_n 0, 1, 0, 0, 0), (85, .aload_n 0, 1, 0, 0, 0), (86, .getfield 86, 3, 908, 0, 0), (89, .invokevirtual 89, 3, 161, 0, 0), (92, .invokestatic 95, 3, 162, 0, 0), (95, .ifCond .eq 52, 3, 147, 0, 0), (98, .iload_n 2, 1, 0, 0, 0), (99, .bipush 8, 2, 0, 8, 0), (101, .if_icmp .ge 30, 3, 131, 0, 0), (104, .aload_n 0, 1, 0, 0, 0), (105, .ldc2_w 77, 3, 0, 0, 32), (108, .aload_n 0, 1, 0, 0, 0), (109, .getfield 99, 3, 914, 0, 0), (112, .lmul, 1, 0, 0, 0), (113, .aload_n 0, 1, 0, 0, 0), (114, .aload_n 0, 1, 0, 0, 0), (115, .getfield 86, 3, 908, 0, 0), (118, .invokevirtual 89, 3, 161, 0, 0), (121, .bipush 97, 2, 0, 97, 0), (123, .isub, 1, 0, 0, 0), (124, .iconst 1, 1, 0, 1, 0), (125, .iadd, 1, 0, 0, 0), (126, .i2l, 1, 0, 0, 0), (127, .ladd, 1, 0, 0, 0), (128, .putfield 99, 3, 914, 0, 0), (131, .iinc 2 1, 3, 0, 1, 0), (134, .aload_n 0, 1, 0, 0, 0), (135, .dup, 1, 0, 0, 0), (136, .getfield 86, 3, 908, 0, 0), (139, .iconst 1, 1, 0, 1, 0), (140, .iadd, 1, 0, 0, 0), (141, .putfield 86, 3, 908, 0, 0), (144, .goto (-60), 3, 84, 0, 0), (147, .iload_n 2, 1, 0, 0, 0), (148, .bipush 8, 2, 0, 8, 0), (150, .if_icmp .gt 115, 3, 265, 0, 0), (153, .aload_n 0, 1, 0, 0, 0), (154, .iconst 2, 1, 0, 2, 0), (155, .putfield 83, 3, 909, 0, 0), (158, .goto 107, 3, 265, 0, 0), (161, .iload_n 1, 1, 0, 0, 0), (162, .invokestatic 103, 3, 163, 0, 0), (165, .ifCond .eq 79, 3, 244, 0, 0), (168, .aload_n 0, 1, 0, 0, 0), (169, .iconst 0, 1, 0, 0, 0), (170, .putfield 106, 3, 911, 0, 0), (173, .aload_n 0, 1, 0, 0, 0), (174, .aload_n 0, 1, 0, 0, 0), (175, .getfield 86, 3, 908, 0, 0), (178, .invokevirtual 89, 3, 161, 0, 0), (181, .invokestatic 103, 3, 163, 0, 0), (184, .ifCond .eq 47, 3, 231, 0, 0), (187, .iload_n 2, 1, 0, 0, 0), (188, .iconst 3, 1, 0, 3, 0), (189, .if_icmp .ge 26, 3, 215, 0, 0), (192, .aload_n 0, 1, 0, 0, 0), (193, .bipush 10, 2, 0, 10, 0), (195, .aload_n 0, 1, 0, 0, 0), (196, .getfield 106, 3, 911, 0, 0), (199, .imul, 1, 0, 0, 0), (200, .aload_n 0, 1, 0, 0, 0), (201, .aload_n 0, 1, 0, 0, 0), (202, .getfield 86, 3, 908, 0, 0), (205, .invokevirtual 89, 3, 161, 0, 0), (208, .iadd, 1, 0, 0, 0), (209, .bipush 48, 2, 0, 48, 0), (211, .isub, 1, 0, 0, 0), (212, .putfield 106, 3, 911, 0, 0), (215, .iinc 2 1, 3, 0, 1, 0), (218, .aload_n 0, 1, 0, 0, 0), (219, .dup, 1, 0, 0, 0), (220, .getfield 86, 3, 908, 0, 0), (223, .iconst 1, 1, 0, 1, 0), (224, .iadd, 1, 0, 0, 0), (225, .putfield 86, 3, 908, 0, 0), (228, .goto (-55), 3, 173, 0, 0), (231, .iload_n 2, 1, 0, 0, 0), (232, .iconst 3, 1, 0, 3, 0), (233, .if_icmp .gt 32, 3, 265, 0, 0), (236, .aload_n 0, 1, 0, 0, 0), (237, .iconst 3, 1, 0, 3, 0), (238, .putfield 83, 3, 909, 0, 0), (241, .goto 24, 3, 265, 0, 0), (244, .iload_n 1, 1, 0, 0, 0), (245, .bipush 59, 2, 0, 59, 0), (247, .if_icmp .ne 18, 3, 265, 0, 0), (250, .aload_n 0, 1, 0, 0, 0), (251, .iconst 4, 1, 0, 4, 0), (252, .putfield 83, 3, 909, 0, 0), (255, .aload_n 0, 1, 0, 0, 0), (256, .dup, 1, 0, 0, 0), (257, .getfield 86, 3, 908, 0, 0), (260, .iconst 1, 1, 0, 1, 0), (261, .iadd, 1, 0, 0, 0), (262, .putfield 86, 3, 908, 0, 0), (265, .return_, 1, 0, 0, 0)]
/-- LastAskedModel.flaw(I)V -/
def xc_166 : List xCe := [(0, .aload_n 0, 1, 0, 0, 0), (1, .getfield 83, 3, 909, 0, 0), (4, .iconst 5, 1, 0, 5, 0), (5, .if_icmp .ne 4, 3, 9, 0, 0), (8, .return_, 1, 0, 0, 0), (9, .aload_n 0, 1, 0, 0, 0), (10, .iload_n 1, 1, 0, 0, 0), (11, .putfield 109, 3, 912, 0, 0), (14, .aload_n 0, 1, 0, 0, 0), (15, .aload_n 0, 1, 0, 0, 0), (16, .getfield 92, 3, 910, 0, 0), (19, .putfield 112, 3, 913, 0, 0), (22, .aload_n 0, 1, 0, 0, 0), (23, .iconst 5, 1, 0, 5, 0), (24, .putfield 83, 3, 909, 0, 0), (27, .return_, 1, 0, 0, 0)]
/-- LastAskedModel.isWord(Ljava/lang/String;)Z -/
def xc_167 : List xCe := [(0, .aload_n 0, 1, 0, 0, 0), (1, .getfield 83, 3, 909, 0, 0), (4, .iconst 2, 1, 0, 2, 0), (5, .if_icmp .ne 19, 3, 24, 0, 0), (8, .aload_n 0, 1, 0, 0, 0), (9, .getfield 99, 3, 914, 0, 0), (12, .aload_n 1, 1, 0, 0, 0), (13, .invokestatic 115, 3, 164, 0, 0), (16, .lcmp, 1, 0, 0, 0), (17, .ifCond .ne 7, 3, 24, 0, 0), (20, .iconst 1, 1, 0, 1, 0), (21, .goto 4, 3, 25, 0, 0), (24, .iconst 0, 1, 0, 0, 0), (25, .ireturn, 1, 0, 0, 0)]
/-- LastAskedModel.eatsSemicolon()Z -/
def xc_168 : List xCe := [(0, .aload_n 0, 1, 0, 0, 0), (1, .getfield 83, 3, 909, 0, 0), (4, .iconst 4, 1, 0, 4, 0), (5, .if_icmp .ne 7, 3, 12, 0, 0), (8, .iconst 1, 1, 0, 1, 0), (9, .goto 4, 3, 13, 0, 0), (12, .iconst 0, 1, 0, 0, 0), (13, .istore_n 1, 1, 0, 0, 0), (14, .iload_n 1, 1, 0, 0, 0), (15, .ifCond .eq 7, 3, 22, 0, 0), (18, .aload_n 0, 1, 0, 0, 0), (19, .invokevirtual 119, 3, 165, 0, 0), (22, .iload_n 1, 1, 0, 0, 0), (23, .ireturn, 1, 0, 0, 0)]
/-- LastAskedModel.readPart(Ljava/lang/String;II)I -/
def xc_169 : List xCe := [(0, .aload_n 0, 1, 0, 0, 0), (1, .aload_n 1, 1, 0, 0, 0), (2, .invokevirtual 122, 3, 167, 0, 0), (5, .ifCond .ne 8, 3, 13, 0, 0), (8, .aload_n 0, 1, 0, 0, 0), (9, .iconst 1, 1, 0, 1, 0), (10, .invokevirtual 126, 3, 166, 0, 0), (13, .aload_n 0, 1, 0, 0, 0), (14, .invokevirtual 119, 3, 165, 0, 0), (17, .aload_n 0, 1, 0, 0, 0), (18, .getfield 83, 3, 909, 0, 0), (21, .iconst 3, 1, 0, 3, 0), (22, .if_icmp .eq 11, 3, 33, 0, 0), (25, .aload_n 0, 1, 0, 0, 0), (26, .iconst 1, 1, 0, 1, 0), (27, .invokevirtual 126, 3, 166, 0, 0), (30, .goto 20, 3, 50, 0, 0), (33, .aload_n 0, 1, 0, 0, 0), (34, .getfield 106, 3, 911, 0, 0), (37, .iload_n 2, 1, 0, 0, 0), (38, .iload_n 3, 1, 0, 0, 0), (39, .invokestatic 130, 3, 156, 0, 0), (42, .ifCond .ne 8, 3, 50, 0, 0), (45, .aload_n 0, 1, 0, 0, 0), (46, .iconst 4, 1, 0, 4, 0), (47, .invokevirtual 126, 3, 166, 0, 0), (50, .aload_n 0, 1, 0, 0, 0), (51, .getfield 83, 3, 909, 0, 0), (54, .iconst 5, 1, 0, 5, 0), (55, .if_icmp .ne 7, 3, 62, 0, 0), (58, .iload_n 2, 1, 0, 0, 0), (59, .goto 7, 3, 66, 0, 0), (62, .aload_n 0, 1, 0, 0, 0), (63, .getfield 106, 3, 911, 0, 0), (66, .istore 4, 2, 0, 0, 0), (68, .aload_n 0, 1, 0, 0, 0), (69, .invokevirtual 119, 3, 165, 0, 0), (72, .iload 4, 2, 0, 0, 0), (74, .ireturn, 1, 0, 0, 0)]
/-- LastAskedModel.isName()Z -/
def xc_170 : List xCe := [(0, .aload_n 0, 1, 0, 0, 0), (1, .getfield 83, 3, 909, 0, 0), (4, .iconst 2, 1, 0, 2, 0), (5, .if_icmp .ne 39, 3, 44, 0, 0), (8, .aload_n 0, 1, 0, 0, 0), (9, .ldc 134, 2, 1000, 0, 0), (11, .invokevirtual 122, 3, 167, 0, 0), (14, .ifCond .ne 30, 3, 44, 0, 0), (17, .aload_n 0, 1, 0, 0, 0), (18, .ldc 136, 2, 1003, 0, 0), (20, .invokevirtual 122, 3, 167, 0, 0), (23, .ifCond .ne 21, 3, 44, 0, 0), (26, .aload_n 0, 1, 0, 0, 0), (27, .ldc 138, 2, 1004, 0, 0), (29, .invokevirtual 122, 3, 167, 0, 0), (32, .ifCond .ne 12, 3, 44, 0, 0), (35, .aload_n 0, 1, 0, 0, 0), (36, .ldc 140, 2, 1005, 0, 0), (38, .invokevirtual 122, 3, 167, 0, 0), (41, .ifCond .eq 5, 3, 46, 0, 0), (44, .iconst 0, 1, 0, 0, 0), (45, .ireturn, 1, 0, 0, 0), (46, .aload_n 0, 1, 0, 0, 0), (47, .ldc 142, 2, 1006, 0, 0), (49, .invokevirtual 122, 3, 167, 0, 0), (52, .ifCond .ne 25, 3, 77, 0, 0), (55, .aload_n 0, 1, 0, 0, 0), (56, .ldc 144, 2, 1007, 0, 0), (58, .invokevirtual 122, 3, 167, 0, 0), (61, .ifCond .ne 16, 3, 77, 0, 0), (64, .aload_n 0, 1, 0, 0, 0), (65, .ldc 146, 2, 1008, 0, 0), (67, .invokevirtual 122, 3, 167, 0, 0), (70, .ifCond .ne 7, 3, 77, 0, 0), (73, .iconst 1, 1, 0, 1, 0), (74, .goto 4, 3, 78, 0, 0), (77, .iconst 0, 1, 0, 0, 0), (78, .ireturn, 1, 0, 0, 0)]
/-- LastAskedModel.lineBegins(II)V -/
def xc_171 : List xCe := [(0, .iload_n 1, 1, 0, 0, 0), (1, .iload_n 2, 1, 0, 0, 0), (2, .if_icmp .ne 8, 3, 10, 0, 0), (5, .aload_n 0, 1, 0, 0, 0), (6, .iconst 5, 1, 0, 5, 0), (7, .invokevirtual 126, 3, 166, 0, 0), (10, .aload_n 0, 1, 0, 0, 0), (11, .getfield 148, 3, 904, 0, 0), (14, .getfield 152, 3, 800, 0, 0), (17, .iconst (-1), 1, 0, (-1), 0), (18, .if_icmp .ne 9, 3, 27, 0, 0), (21, .aload_n 0, 1, 0, 0, 0), (22, .bipush 6, 2, 0, 6, 0), (24, .invokevirtual 126, 3, 166, 0, 0), (27, .aload_n 0, 1, 0, 0, 0), (28, .invokevirtual 119, 3, 165, 0, 0), (31, .return_, 1, 0, 0, 0)]
/-- LastAskedModel.personAtHand()I -/
def xc_172 : List xCe := [(0, .aload_n 0, 1, 0, 0, 0), (1, .invokevirtual 156, 3, 170, 0, 0), (4, .ifCond .ne 8, 3, 12, 0, 0), (7, .aload_n 0, 1, 0, 0, 0), (8, .iconst 1, 1, 0, 1, 0), (9, .invokevirtual 126, 3, 166, 0, 0), (12, .aload_n 0, 1, 0, 0, 0), (13, .getfield 148, 3, 904, 0, 0), (16, .aload_n 0, 1, 0, 0, 0), (17, .getfield 99, 3, 914, 0, 0), (20, .invokevirtual 160, 3, 147, 0, 0), (23, .istore_n 1, 1, 0, 0, 0), (24, .iload_n 1, 1, 0, 0, 0), (25, .iconst (-1), 1, 0, (-1), 0), (26, .if_icmp .ne 8, 3, 34, 0, 0), (29, .aload_n 0, 1, 0, 0, 0), (30, .iconst 2, 1, 0, 2, 0), (31, .invokevirtual 126, 3, 166, 0, 0), (34, .aload_n 0, 1, 0, 0, 0), (35, .getfield 83, 3, 909, 0, 0), (38, .iconst 5, 1, 0, 5, 0), (39, .if_icmp .ne 7, 3, 46, 0, 0), (42, .iconst 0, 1, 0, 0, 0), (43, .goto 4, 3, 47, 0, 0), (46, .iload_n 1, 1, 0, 0, 0), (47, .ireturn, 1, 0, 0, 0)]
/-- LastAskedModel.readAll()V -/
def xc_173 : List xCe := [(0, .iconst 1, 1, 0, 1, 0), (1, .istore_n 1, 1, 0, 0, 0), (2, .iload_n 1, 1, 0, 0, 0), (3, .ifCond .eq 15, 3, 18, 0, 0), (6, .aload_n 0, 1, 0, 0, 0), (7, .invokevirtual 164, 3, 174, 0, 0), (10, .aload_n 0, 1, 0, 0, 0), (11, .invokevirtual 167, 3, 168, 0, 0), (14, .istore_n 1, 1, 0, 0, 0), (15, .goto (-13), 3, 2, 0, 0), (18, .aload_n 0, 1, 0, 0, 0), (19, .getfield 83, 3, 909, 0, 0), (22, .iconst 1, 1, 0, 1, 0), (23, .if_icmp .eq 8, 3, 31, 0, 0), (26, .aload_n 0, 1, 0, 0, 0), (27, .iconst 1, 1, 0, 1, 0), (28, .invokevirtual 126, 3, 166, 0, 0), (31, .aload_n 0, 1, 0, 0, 0), (32, .getfield 148, 3, 904, 0, 0), (35, .getfield 170, 3, 802, 0, 0), (38, .ifCond .ne 9, 3, 47, 0, 0), (41, .aload_n 0, 1, 0, 0, 0), (42, .bipush 6, 2, 0, 6, 0), (44, .invokevirtual 126, 3, 166, 0, 0), (47, .return_, 1, 0, 0, 0)]
/-- LastAskedModel.readLine()V -/
def xc_174 : List xCe := [(0, .aload_n 0, 1, 0, 0, 0), (1, .ldc 134, 2, 1000, 0, 0), (3, .invokevirtual 122, 3, 167, 0, 0), (6, .ifCond .eq 10, 3, 16, 0, 0), (9, .aload_n 0, 1, 0, 0, 0), (10, .invokevirtual 173, 3, 175, 0, 0), (13, .goto 88, 3, 101, 0, 0), (16, .aload_n 0, 1, 0, 0, 0), (17, .ldc 136, 2, 1003, 0, 0), (19, .invokevirtual 122, 3, 167, 0, 0), (22, .ifCond .eq 10, 3, 32, 0, 0), (25, .aload_n 0, 1, 0, 0, 0), (26, .invokevirtual 176, 3, 176, 0, 0), (29, .goto 72, 3, 101, 0, 0), (32, .aload_n 0, 1, 0, 0, 0), (33, .ldc 138, 2, 1004, 0, 0), (35, .invokevirtual 122, 3, 167, 0, 0), (38, .ifCond .eq 10, 3, 48, 0, 0), (41, .aload_n 0, 1, 0, 0, 0), (42, .invokevirtual 179, 3, 177, 0, 0), (45, .goto 56, 3, 101, 0, 0), (48, .aload_n 0, 1, 0, 0, 0), (49, .ldc 140, 2, 1005, 0, 0), (51, .invokevirtual 122, 3, 167, 0, 0), (54, .ifCond .eq 10, 3, 64, 0, 0), (57, .aload_n 0, 1, 0, 0, 0), (58, .invokevirtual 182, 3, 179, 0, 0), (61, .goto 40, 3, 101, 0, 0), (64, .aload_n 0, 1, 0, 0, 0), (65, .ldc 142, 2, 1006, 0, 0), (67, .invokevirtual 122, 3, 167, 0, 0), (70, .ifCond .eq 10, 3, 80, 0, 0), (73, .aload_n 0, 1, 0, 0, 0), (74, .invokevirtual 185, 3, 180, 0, 0), (77, .goto 24, 3, 101, 0, 0), (80, .aload_n 0, 1, 0, 0, 0), (81, .ldc 144, 2, 1007, 0, 0), (83, .invokevirtual 122, 3, 167, 0, 0), (86, .ifCond .eq 10, 3, 96, 0, 0), (89, .aload_n 0, 1, 0, 0, 0), (90, .invokevirtual 188, 3, 181, 0, 0), (93, .goto 8, 3, 101, 0, 0), (96, .aload_n 0, 1, 0, 0, 0), (97, .iconst 1, 1, 0, 1, 0), (98, .invokevirtual 126, 3, 166, 0, 0), (101, .return_, 1, 0, 0, 0)]
/-- LastAskedModel.readCity()V -/
def xc_175 : List xCe := [(0, .aload_n 0, 1, 0, 0, 0), (1, .getfield 148, 3, 904, 0, 0), (4, .getfield 152, 3, 800, 0, 0), (7, .iconst (-1), 1, 0, (-1), 0), (8, .if_icmp .eq 8, 3, 16, 0, 0), (11, .aload_n 0, 1, 0, 0, 0), (12, .iconst 3, 1, 0, 3, 0), (13, .invokevirtual 126, 3, 166, 0, 0), (16, .aload_n 0, 1, 0, 0, 0), (17, .invokevirtual 119, 3, 165, 0, 0), (20, .aload_n 0, 1, 0, 0, 0), (21, .ldc 191, 2, 1001, 0, 0), (23, .iconst 0, 1, 0, 0, 0), (24, .bipush 99, 2, 0, 99, 0), (26, .invokevirtual 192, 3, 169, 0, 0), (29, .istore_n 1, 1, 0, 0, 0), (30, .aload_n 0, 1, 0, 0, 0), (31, .ldc 196, 2, 1002, 0, 0), (33, .iconst 0, 1, 0, 0, 0), (34, .bipush 9, 2, 0, 9, 0), (36, .invokevirtual 192, 3, 169, 0, 0), (39, .istore_n 2, 1, 0, 0, 0), (40, .aload_n 0, 1, 0, 0, 0), (41, .getfield 83, 3, 909, 0, 0), (44, .iconst 5, 1, 0, 5, 0), (45, .if_icmp .ne 4, 3, 49, 0, 0), (48, .return_, 1, 0, 0, 0), (49, .aload_n 0, 1, 0, 0, 0), (50, .getfield 148, 3, 904, 0, 0), (53, .iload_n 1, 1, 0, 0, 0), (54, .putfield 152, 3, 800, 0, 0), (57, .aload_n 0, 1, 0, 0, 0), (58, .getfield 148, 3, 904, 0, 0), (61, .iload_n 2, 1, 0, 0, 0), (62, .putfield 198, 3, 801, 0, 0), (65, .return_, 1, 0, 0, 0)]
/-- LastAskedModel.readPerson()V -/
def xc_176 : List xCe := [(0, .aload_n 0, 1, 0, 0, 0), (1, .aload_n 0, 1, 0, 0, 0), (2, .getfield 148, 3, 904, 0, 0), (5, .getfield 170, 3, 802, 0, 0), (8, .bipush 6, 2, 0, 6, 0), (10, .invokevirtual 200, 3, 171, 0, 0), (13, .aload_n 0, 1, 0, 0, 0), (14, .invokevirtual 156, 3, 170, 0, 0), (17, .ifCond .ne 8, 3, 25, 0, 0), (20, .aload_n 0, 1, 0, 0, 0), (21, .iconst 1, 1, 0, 1, 0), (22, .invokevirtual 126, 3, 166, 0, 0), (25, .aload_n 0, 1, 0, 0, 0), (26, .getfield 148, 3, 904, 0, 0), (29, .aload_n 0, 1, 0, 0, 0), (30, .getfield 99, 3, 914, 0, 0), (33, .invokevirtual 160, 3, 147, 0, 0), (36, .iconst (-1), 1, 0, (-1), 0), (37, .if_icmp .eq 8, 3, 45, 0, 0), (40, .aload_n 0, 1, 0, 0, 0), (41, .iconst 3, 1, 0, 3, 0), (42, .invokevirtual 126, 3, 166, 0, 0), (45, .aload_n 0, 1, 0, 0, 0), (46, .getfield 99, 3, 914, 0, 0), (49, .lstore_n 1, 1, 0, 0, 0), (50, .aload_n 0, 1, 0, 0, 0), (51, .invokevirtual 119, 3, 165, 0, 0), (54, .aload_n 0, 1, 0, 0, 0), (55, .ldc 204, 2, 1009, 0, 0), (57, .invokevirtual 122, 3, 167, 0, 0), (60, .ifCond .eq 7, 3, 67, 0, 0), (63, .iconst 0, 1, 0, 0, 0), (64, .goto 43, 3, 107, 0, 0), (67, .aload_n 0, 1, 0, 0, 0), (68, .ldc 206, 2, 1010, 0, 0), (70, .invokevirtual 122, 3, 167, 0, 0), (73, .ifCond .eq 7, 3, 80, 0, 0), (76, .iconst 1, 1, 0, 1, 0), (77, .goto 30, 3, 107, 0, 0), (80, .aload_n 0, 1, 0, 0, 0), (81, .ldc 208, 2, 1011, 0, 0), (83, .invokevirtual 122, 3, 167, 0, 0), (86, .ifCond .eq 7, 3, 93, 0, 0), (89, .iconst 2, 1, 0, 2, 0), (90, .goto 17, 3, 107, 0, 0), (93, .aload_n 0, 1, 0, 0, 0), (94, .ldc 210, 2, 1012, 0, 0), (96, .invokevirtual 122, 3, 167, 0, 0), (99, .ifCond .eq 7, 3, 106, 0, 0), (102, .iconst 3, 1, 0, 3, 0), (103, .goto 4, 3, 107, 0, 0), (106, .iconst (-1), 1, 0, (-1), 0), (107, .istore_n 3, 1, 0, 0, 0), (108, .iload_n 3, 1, 0, 0, 0), (109, .iconst (-1), 1, 0, (-1), 0), (110, .if_icmp .ne 8, 3, 118, 0, 0), (113, .aload_n 0, 1, 0, 0, 0), (114, .iconst 1, 1, 0, 1, 0), (115, .invokevirtual 126, 3, 166, 0, 0), (118, .aload_n 0, 1, 0, 0, 0), (119, .invokevirtual 119, 3, 165, 0, 0), (122, .aload_n 0, 1, 0, 0, 0), (123, .ldc 212, 2, 1013, 0, 0), (125, .iconst 0, 1, 0, 0, 0), (126, .bipush 99, 2, 0, 99, 0), (128, .invokevirtual 192, 3, 169, 0, 0), (131, .istore 4, 2, 0, 0, 0), (133, .aload_n 0, 1, 0, 0, 0), (134, .ldc 214, 2, 1014, 0, 0), (136, .iconst 0, 1, 0, 0, 0), (137, .bipush 100, 2, 0, 100, 0), (139, .invokevirtual 192, 3, 169, 0, 0), (142, .istore 5, 2, 0, 0, 0), (144, .aload_n 0, 1, 0, 0, 0), (145, .getfield 83, 3, 909, 0, 0), (148, .iconst 5, 1, 0, 5, 0), (149, .if_icmp .ne 4, 3, 153, 0, 0), (152, .return_, 1, 0, 0, 0), (153, .aload_n 0, 1, 0, 0, 0), (154, .getfield 148, 3, 904, 0, 0), (157, .getfield 170, 3, 802, 0, 0), (160, .istore 6, 2, 0, 0, 0), (162, .aload_n 0, 1, 0, 0, 0), (163, .getfield 148, 3, 904, 0, 0), (166, .getfield 216, 3, 816, 0, 0), (169, .iload 6, 2, 0, 0, 0), (171, .lload_n 1, 1, 0, 0, 0), (172, .lastore, 1, 0, 0, 0), (173, .aload_n 0, 1, 0, 0, 0), (174, .getfield 148, 3, 904, 0, 0), (177, .getfield 220, 3, 807, 0, 0), (180, .iload 6, 2, 0, 0, 0), (182, .iload_n 3, 1, 0, 0, 0), (183, .iastore, 1, 0, 0, 0), (184, .aload_n 0, 1, 0, 0, 0), (185, .getfield 148, 3, 904, 0, 0), (188, .getfield 223, 3, 808, 0, 0), (191, .iload 6, 2, 0, 0, 0), (193, .iload 4, 2, 0, 0, 0), (195, .iastore, 1, 0, 0, 0), (196, .aload_n 0, 1, 0, 0, 0), (197, .getfield 148, 3, 904, 0, 0), (200, .getfield 225, 3, 809, 0, 0), (203, .iload 6, 2, 0, 0, 0), (205, .iload 5, 2, 0, 0, 0), (207, .iastore, 1, 0, 0, 0), (208, .aload_n 0, 1, 0, 0, 0), (209, .getfield 148, 3, 904, 0, 0), (212, .dup, 1, 0, 0, 0), (213, .getfield 170, 3, 802, 0, 0), (216, .iconst 1, 1, 0, 1, 0), (217, .iadd, 1, 0, 0, 0), (218, .putfield 170, 3, 802, 0, 0), (221, .return_, 1, 0, 0, 0)]
/-- LastAskedModel.readNear()V -/
def xc_177 : List xCe := [(0, .aload_n 0, 1, 0, 0, 0), (1, .aload_n 0, 1, 0, 0, 0), (2, .getfield 148, 3, 904, 0, 0), (5, .getfield 227, 3, 803, 0, 0), (8, .bipush 9, 2, 0, 9, 0), (10, .invokevirtual 200, 3, 171, 0, 0), (13, .aload_n 0, 1, 0, 0, 0), (14, .invokevirtual 230, 3, 172, 0, 0), (17, .istore_n 1, 1, 0, 0, 0), (18, .aload_n 0, 1, 0, 0, 0), (19, .invokevirtual 119, 3, 165, 0, 0), (22, .aload_n 0, 1, 0, 0, 0), (23, .invokevirtual 230, 3, 172, 0, 0), (26, .istore_n 2, 1, 0, 0, 0), (27, .aload_n 0, 1, 0, 0, 0), (28, .getfield 83, 3, 909, 0, 0), (31, .iconst 5, 1, 0, 5, 0), (32, .if_icmp .eq 29, 3, 61, 0, 0), (35, .iload_n 1, 1, 0, 0, 0), (36, .iload_n 2, 1, 0, 0, 0), (37, .if_icmp .eq 19, 3, 56, 0, 0), (40, .aload_n 0, 1, 0, 0, 0), (41, .getfield 148, 3, 904, 0, 0), (44, .getfield 233, 3, 810, 0, 0), (47, .iload_n 1, 1, 0, 0, 0), (48, .iaload, 1, 0, 0, 0), (49, .iload_n 2, 1, 0, 0, 0), (50, .invokestatic 235, 3, 157, 0, 0), (53, .ifCond .eq 8, 3, 61, 0, 0), (56, .aload_n 0, 1, 0, 0, 0), (57, .iconst 3, 1, 0, 3, 0), (58, .invokevirtual 126, 3, 166, 0, 0), (61, .aload_n 0, 1, 0, 0, 0), (62, .invokevirtual 119, 3, 165, 0, 0), (65, .aload_n 0, 1, 0, 0, 0), (66, .getfield 83, 3, 909, 0, 0), (69, .iconst 5, 1, 0, 5, 0), (70, .if_icmp .ne 4, 3, 74, 0, 0), (73, .return_, 1, 0, 0, 0), (74, .aload_n 0, 1, 0, 0, 0), (75, .getfield 148, 3, 904, 0, 0), (78, .getfield 233, 3, 810, 0, 0), (81, .iload_n 1, 1, 0, 0, 0), (82, .dup2, 1, 0, 0, 0), (83, .iaload, 1, 0, 0, 0), (84, .iconst 1, 1, 0, 1, 0), (85, .iload_n 2, 1, 0, 0, 0), (86, .ishl, 1, 0, 0, 0), (87, .ior, 1, 0, 0, 0), (88, .iastore, 1, 0, 0, 0), (89, .aload_n 0, 1, 0, 0, 0), (90, .getfield 148, 3, 904, 0, 0), (93, .getfield 233, 3, 810, 0, 0), (96, .iload_n 2, 1, 0, 0, 0), (97, .dup2, 1, 0, 0, 0), (98, .iaload, 1, 0, 0, 0), (99, .iconst 1, 1, 0, 1, 0), (100, .iload_n 1, 1, 0, 0, 0), (101, .ishl, 1, 0, 0, 0), (102, .ior, 1, 0, 0, 0), (103, .iastore, 1, 0, 0, 0), (104, .aload_n 0, 1, 0, 0, 0), (105, .getfield 148, 3, 904, 0, 0), (108, .dup, 1, 0, 0, 0), (109, .getfield 227, 3, 803, 0, 0), (112, .iconst 1, 1, 0, 1, 0), (113, .iadd, 1, 0, 0, 0), (114, .putfield 227, 3, 803, 0, 0), (117, .return_, 1, 0, 0, 0)]
/-- LastAskedModel.readPair()I -/
def xc_178 : List xCe := [(0, .aload_n 0, 1, 0, 0, 0), (1, .invokevirtual 230, 3, 172, 0, 0), (4, .istore_n 1, 1, 0, 0, 0), (5, .aload_n 0, 1, 0, 0, 0), (6, .getfield 83, 3, 909, 0, 0), (9, .iconst 5, 1, 0, 5, 0), (10, .if_icmp .eq 22, 3, 32, 0, 0), (13, .aload_n 0, 1, 0, 0, 0), (14, .getfield 148, 3, 904, 0, 0), (17, .getfield 220, 3, 807, 0, 0), (20, .iload_n 1, 1, 0, 0, 0), (21, .iaload, 1, 0, 0, 0), (22, .iconst 3, 1, 0, 3, 0), (23, .if_icmp .ne 9, 3, 32, 0, 0), (26, .aload_n 0, 1, 0, 0, 0), (27, .bipush 7, 2, 0, 7, 0), (29, .invokevirtual 126, 3, 166, 0, 0), (32, .aload_n 0, 1, 0, 0, 0), (33, .invokevirtual 119, 3, 165, 0, 0), (36, .aload_n 0, 1, 0, 0, 0), (37, .aload_n 0, 1, 0, 0, 0), (38, .invokevirtual 230, 3, 172, 0, 0), (41, .putfield 239, 3, 915, 0, 0), (44, .aload_n 0, 1, 0, 0, 0), (45, .getfield 83, 3, 909, 0, 0), (48, .iconst 5, 1, 0, 5, 0), (49, .if_icmp .eq 37, 3, 86, 0, 0), (52, .iload_n 1, 1, 0, 0, 0), (53, .aload_n 0, 1, 0, 0, 0), (54, .getfield 239, 3, 915, 0, 0), (57, .if_icmp .eq 24, 3, 81, 0, 0), (60, .aload_n 0, 1, 0, 0, 0), (61, .getfield 148, 3, 904, 0, 0), (64, .getfield 242, 3, 812, 0, 0), (67, .bipush 6, 2, 0, 6, 0), (69, .iload_n 1, 1, 0, 0, 0), (70, .imul, 1, 0, 0, 0), (71, .aload_n 0, 1, 0, 0, 0), (72, .getfield 239, 3, 915, 0, 0), (75, .iadd, 1, 0, 0, 0), (76, .iaload, 1, 0, 0, 0), (77, .iconst (-1), 1, 0, (-1), 0), (78, .if_icmp .eq 8, 3, 86, 0, 0), (81, .aload_n 0, 1, 0, 0, 0), (82, .iconst 3, 1, 0, 3, 0), (83, .invokevirtual 126, 3, 166, 0, 0), (86, .aload_n 0, 1, 0, 0, 0), (87, .getfield 83, 3, 909, 0, 0), (90, .iconst 5, 1, 0, 5, 0), (91, .if_icmp .eq 24, 3, 115, 0, 0), (94, .aload_n 0, 1, 0, 0, 0), (95, .getfield 148, 3, 904, 0, 0), (98, .iload_n 1, 1, 0, 0, 0), (99, .aload_n 0, 1, 0, 0, 0), (100, .getfield 239, 3, 915, 0, 0), (103, .invokevirtual 244, 3, 148, 0, 0), (106, .ifCond .ne 9, 3, 115, 0, 0), (109, .aload_n 0, 1, 0, 0, 0), (110, .bipush 7, 2, 0, 7, 0), (112, .invokevirtual 126, 3, 166, 0, 0), (115, .aload_n 0, 1, 0, 0, 0), (116, .invokevirtual 119, 3, 165, 0, 0), (119, .iload_n 1, 1, 0, 0, 0), (120, .ireturn, 1, 0, 0, 0)]
/-- LastAskedModel.readAsked()V -/
def xc_179 : List xCe := [(0, .aload_n 0, 1, 0, 0, 0), (1, .aload_n 0, 1, 0, 0, 0), (2, .getfield 148, 3, 904, 0, 0), (5, .getfield 247, 3, 804, 0, 0), (8, .bipush 12, 2, 0, 12, 0), (10, .invokevirtual 200, 3, 171, 0, 0), (13, .aload_n 0, 1, 0, 0, 0), (14, .invokevirtual 250, 3, 178, 0, 0), (17, .istore_n 1, 1, 0, 0, 0), (18, .aload_n 0, 1, 0, 0, 0), (19, .ldc 253, 2, 1015, 0, 0), (21, .iconst 0, 1, 0, 0, 0), (22, .aload_n 0, 1, 0, 0, 0), (23, .getfield 148, 3, 904, 0, 0), (26, .getfield 152, 3, 800, 0, 0), (29, .invokevirtual 192, 3, 169, 0, 0), (32, .istore_n 2, 1, 0, 0, 0), (33, .aload_n 0, 1, 0, 0, 0), (34, .getfield 83, 3, 909, 0, 0), (37, .iconst 5, 1, 0, 5, 0), (38, .if_icmp .ne 4, 3, 42, 0, 0), (41, .return_, 1, 0, 0, 0), (42, .aload_n 0, 1, 0, 0, 0), (43, .getfield 148, 3, 904, 0, 0), (46, .getfield 242, 3, 812, 0, 0), (49, .bipush 6, 2, 0, 6, 0), (51, .iload_n 1, 1, 0, 0, 0), (52, .imul, 1, 0, 0, 0), (53, .aload_n 0, 1, 0, 0, 0), (54, .getfield 239, 3, 915, 0, 0), (57, .iadd, 1, 0, 0, 0), (58, .iload_n 2, 1, 0, 0, 0), (59, .iastore, 1, 0, 0, 0), (60, .aload_n 0, 1, 0, 0, 0), (61, .getfield 148, 3, 904, 0, 0), (64, .dup, 1, 0, 0, 0), (65, .getfield 247, 3, 804, 0, 0), (68, .iconst 1, 1, 0, 1, 0), (69, .iadd, 1, 0, 0, 0), (70, .putfield 247, 3, 804, 0, 0), (73, .return_, 1, 0, 0, 0)]
/-- LastAskedModel.readHeard()V -/
def xc_180 : List xCe := [(0, .aload_n 0, 1, 0, 0, 0), (1, .aload_n 0, 1, 0, 0, 0), (2, .getfield 148, 3, 904, 0, 0), (5, .getfield 255, 3, 805, 0, 0), (8, .iconst 3, 1, 0, 3, 0), (9, .invokevirtual 200, 3, 171, 0, 0), (12, .aload_n 0, 1, 0, 0, 0), (13, .invokevirtual 250, 3, 178, 0, 0), (16, .istore_n 1, 1, 0, 0, 0), (17, .aload_n 0, 1, 0, 0, 0), (18, .ldc 253, 2, 1015, 0, 0), (20, .iconst 0, 1, 0, 0, 0), (21, .aload_n 0, 1, 0, 0, 0), (22, .getfield 148, 3, 904, 0, 0), (25, .getfield 152, 3, 800, 0, 0), (28, .invokevirtual 192, 3, 169, 0, 0), (31, .istore_n 2, 1, 0, 0, 0), (32, .aload_n 0, 1, 0, 0, 0), (33, .ldc_w 258, 3, 1016, 0, 0), (36, .iconst 0, 1, 0, 0, 0), (37, .iconst 3, 1, 0, 3, 0), (38, .invokevirtual 192, 3, 169, 0, 0), (41, .istore_n 3, 1, 0, 0, 0), (42, .aload_n 0, 1, 0, 0, 0), (43, .getfield 83, 3, 909, 0, 0), (46, .iconst 5, 1, 0, 5, 0), (47, .if_icmp .ne 4, 3, 51, 0, 0), (50, .return_, 1, 0, 0, 0), (51, .aload_n 0, 1, 0, 0, 0), (52, .getfield 148, 3, 904, 0, 0), (55, .getfield 242, 3, 812, 0, 0), (58, .bipush 6, 2, 0, 6, 0), (60, .iload_n 1, 1, 0, 0, 0), (61, .imul, 1, 0, 0, 0), (62, .aload_n 0, 1, 0, 0, 0), (63, .getfield 239, 3, 915, 0, 0), (66, .iadd, 1, 0, 0, 0), (67, .iload_n 2, 1, 0, 0, 0), (68, .iastore, 1, 0, 0, 0), (69, .aload_n 0, 1, 0, 0, 0), (70, .getfield 148, 3, 904, 0, 0), (73, .getfield 260, 3, 813, 0, 0), (76, .aload_n 0, 1, 0, 0, 0), (77, .getfield 148, 3, 904, 0, 0), (80, .getfield 255, 3, 805, 0, 0), (83, .iload_n 1, 1, 0, 0, 0), (84, .iastore, 1, 0, 0, 0), (85, .aload_n 0, 1, 0, 0, 0), (86, .getfield 148, 3, 904, 0, 0), (89, .getfield 263, 3, 814, 0, 0), (92, .aload_n 0, 1, 0, 0, 0), (93, .getfield 148, 3, 904, 0, 0), (96, .getfield 255, 3, 805, 0, 0), (99, .aload_n 0, 1, 0, 0, 0), (100, .getfield 239, 3, 915, 0, 0), (103, .iastore, 1, 0, 0, 0), (104, .aload_n 0, 1, 0, 0, 0), (105, .getfield 148, 3, 904, 0, 0), (108, .getfield 266, 3, 815, 0, 0), (111, .aload_n 0, 1, 0, 0, 0), (112, .getfield 148, 3, 904, 0, 0), (115, .getfield 255, 3, 805, 0, 0), (118, .iload_n 3, 1, 0, 0, 0), (119, .iastore, 1, 0, 0, 0), (120, .aload_n 0, 1, 0, 0, 0), (121, .getfield 148, 3, 904, 0, 0), (124, .dup, 1, 0, 0, 0), (125, .getfield 255, 3, 805, 0, 0), (128, .iconst 1, 1, 0, 1, 0), (129, .iadd, 1, 0, 0, 0), (130, .putfield 255, 3, 805, 0, 0), (133, .return_, 1, 0, 0, 0)]
/-- LastAskedModel.readWent()V -/
def xc_181 : List xCe := [(0, .aload_n 0, 1, 0, 0, 0), (1, .iconst 0, 1, 0, 0, 0), (2, .iconst 1, 1, 0, 1, 0), (3, .invokevirtual 200, 3, 171, 0, 0), (6, .aload_n 0, 1, 0, 0, 0), (7, .invokevirtual 230, 3, 172, 0, 0), (10, .istore_n 1, 1, 0, 0, 0), (11, .aload_n 0, 1, 0, 0, 0), (12, .getfield 83, 3, 909, 0, 0), (15, .iconst 5, 1, 0, 5, 0), (16, .if_icmp .eq 21, 3, 37, 0, 0), (19, .aload_n 0, 1, 0, 0, 0), (20, .getfield 148, 3, 904, 0, 0), (23, .getfield 268, 3, 811, 0, 0), (26, .iload_n 1, 1, 0, 0, 0), (27, .iaload, 1, 0, 0, 0), (28, .iconst (-1), 1, 0, (-1), 0), (29, .if_icmp .eq 8, 3, 37, 0, 0), (32, .aload_n 0, 1, 0, 0, 0), (33, .iconst 3, 1, 0, 3, 0), (34, .invokevirtual 126, 3, 166, 0, 0), (37, .aload_n 0, 1, 0, 0, 0), (38, .invokevirtual 119, 3, 165, 0, 0), (41, .bipush (-2), 2, 0, (-2), 0), (43, .istore_n 2, 1, 0, 0, 0), (44, .aload_n 0, 1, 0, 0, 0), (45, .ldc 146, 2, 1008, 0, 0), (47, .invokevirtual 122, 3, 167, 0, 0), (50, .ifCond .ne 26, 3, 76, 0, 0), (53, .aload_n 0, 1, 0, 0, 0), (54, .invokevirtual 230, 3, 172, 0, 0), (57, .istore_n 2, 1, 0, 0, 0), (58, .aload_n 0, 1, 0, 0, 0), (59, .getfield 83, 3, 909, 0, 0), (62, .iconst 5, 1, 0, 5, 0), (63, .if_icmp .eq 13, 3, 76, 0, 0), (66, .iload_n 2, 1, 0, 0, 0), (67, .iload_n 1, 1, 0, 0, 0), (68, .if_icmp .ne 8, 3, 76, 0, 0), (71, .aload_n 0, 1, 0, 0, 0), (72, .iconst 3, 1, 0, 3, 0), (73, .invokevirtual 126, 3, 166, 0, 0), (76, .aload_n 0, 1, 0, 0, 0), (77, .invokevirtual 119, 3, 165, 0, 0), (80, .aload_n 0, 1, 0, 0, 0), (81, .getfield 83, 3, 909, 0, 0), (84, .iconst 5, 1, 0, 5, 0), (85, .if_icmp .ne 4, 3, 89, 0, 0), (88, .return_, 1, 0, 0, 0), (89, .aload_n 0, 1, 0, 0, 0), (90, .getfield 148, 3, 904, 0, 0), (93, .getfield 268, 3, 811, 0, 0), (96, .iload_n 1, 1, 0, 0, 0), (97, .iload_n 2, 1, 0, 0, 0), (98, .iastore, 1, 0, 0, 0), (99, .aload_n 0, 1, 0, 0, 0), (100, .getfield 148, 3, 904, 0, 0), (103, .dup, 1, 0, 0, 0), (104, .getfield 270, 3, 806, 0, 0), (107, .iconst 1, 1, 0, 1, 0), (108, .iadd, 1, 0, 0, 0), (109, .putfield 270, 3, 806, 0, 0), (112, .return_, 1, 0, 0, 0)]
/-- LastAskedModel.feed(IIIII)I -/
def xc_182 : List xCe := [(0, .aload_n 0, 1, 0, 0, 0), (1, .iconst 0, 1, 0, 0, 0), (2, .putfield 51, 3, 900, 0, 0), (5, .aload_n 0, 1, 0, 0, 0), (6, .getfield 273, 3, 906, 0, 0), (9, .bipush 20, 2, 0, 20, 0), (11, .iadd, 1, 0, 0, 0), (12, .sipush 900, 3, 0, 900, 0), (15, .if_icmp .le 5, 3, 20, 0, 0), (18, .iconst (-1), 1, 0, (-1), 0), (19, .ireturn, 1, 0, 0, 0), (20, .iconst 0, 1, 0, 0, 0), (21, .istore 6, 2, 0, 0, 0), (23, .iload 6, 2, 0, 0, 0), (25, .bipush 20, 2, 0, 20, 0), (27, .if_icmp .ge 90, 3, 117, 0, 0), (30, .iload 6, 2, 0, 0, 0), (32, .iconst 4, 1, 0, 4, 0), (33, .if_icmp .ge 7, 3, 40, 0, 0), (36, .iload_n 1, 1, 0, 0, 0), (37, .goto 39, 3, 76, 0, 0), (40, .iload 6, 2, 0, 0, 0), (42, .bipush 8, 2, 0, 8, 0), (44, .if_icmp .ge 7, 3, 51, 0, 0), (47, .iload_n 2, 1, 0, 0, 0), (48, .goto 28, 3, 76, 0, 0), (51, .iload 6, 2, 0, 0, 0), (53, .bipush 12, 2, 0, 12, 0), (55, .if_icmp .ge 7, 3, 62, 0, 0), (58, .iload_n 3, 1, 0, 0, 0), (59, .goto 17, 3, 76, 0, 0), (62, .iload 6, 2, 0, 0, 0), (64, .bipush 16, 2, 0, 16, 0), (66, .if_icmp .ge 8, 3, 74, 0, 0), (69, .iload 4, 2, 0, 0, 0), (71, .goto 5, 3, 76, 0, 0), (74, .iload 5, 2, 0, 0, 0), (76, .istore 7, 2, 0, 0, 0), (78, .aload_n 0, 1, 0, 0, 0), (79, .getfield 13, 3, 905, 0, 0), (82, .aload_n 0, 1, 0, 0, 0), (83, .getfield 273, 3, 906, 0, 0), (86, .iload 7, 2, 0, 0, 0), (88, .bipush 24, 2, 0, 24, 0), (90, .bipush 8, 2, 0, 8, 0), (92, .iload 6, 2, 0, 0, 0), (94, .iconst 4, 1, 0, 4, 0), (95, .irem, 1, 0, 0, 0), (96, .imul, 1, 0, 0, 0), (97, .isub, 1, 0, 0, 0), (98, .ishr, 1, 0, 0, 0), (99, .i2b, 1, 0, 0, 0), (100, .bastore, 1, 0, 0, 0), (101, .aload_n 0, 1, 0, 0, 0), (102, .dup, 1, 0, 0, 0), (103, .getfield 273, 3, 906, 0, 0), (106, .iconst 1, 1, 0, 1, 0), (107, .iadd, 1, 0, 0, 0), (108, .putfield 273, 3, 906, 0, 0), (111, .iinc 6 1, 3, 0, 1, 0), (114, .goto (-91), 3, 23, 0, 0), (117, .aload_n 0, 1, 0, 0, 0), (118, .getfield 273, 3, 906, 0, 0), (121, .ireturn, 1, 0, 0, 0)]
/-- LastAskedModel.city(I)I -/
def xc_183 : List xCe := [(0, .aload_n 0, 1, 0, 0, 0), (1, .iconst 0, 1, 0, 0, 0), (2, .putfield 51, 3, 900, 0, 0), (5, .iload_n 1, 1, 0, 0, 0), (6, .ifCond .lt 11, 3, 17, 0, 0), (9, .iload_n 1, 1, 0, 0, 0), (10, .aload_n 0, 1, 0, 0, 0), (11, .getfield 273, 3, 906, 0, 0), (14, .if_icmp .le 9, 3, 23, 0, 0), (17, .aload_n 0, 1, 0, 0, 0), (18, .iconst 2, 1, 0, 2, 0), (19, .invokevirtual 57, 3, 151, 0, 0), (22, .ireturn, 1, 0, 0, 0), (23, .aload_n 0, 1, 0, 0, 0), (24, .iload_n 1, 1, 0, 0, 0), (25, .putfield 68, 3, 907, 0, 0), (28, .aload_n 0, 1, 0, 0, 0), (29, .iconst 0, 1, 0, 0, 0), (30, .putfield 273, 3, 906, 0, 0), (33, .aload_n 0, 1, 0, 0, 0), (34, .iconst 0, 1, 0, 0, 0), (35, .putfield 86, 3, 908, 0, 0), (38, .aload_n 0, 1, 0, 0, 0), (39, .iconst 0, 1, 0, 0, 0), (40, .putfield 109, 3, 912, 0, 0), (43, .aload_n 0, 1, 0, 0, 0), (44, .new 153, 3, 8, 0, 0), (47, .dup, 1, 0, 0, 0), (48, .invokespecial 276, 3, 146, 0, 0), (51, .putfield 148, 3, 904, 0, 0), (54, .aload_n 0, 1, 0, 0, 0), (55, .iconst 0, 1, 0, 0, 0), (56, .putfield 83, 3, 909, 0, 0), (59, .aload_n 0, 1, 0, 0, 0), (60, .invokevirtual 119, 3, 165, 0, 0), (63, .aload_n 0, 1, 0, 0, 0), (64, .invokevirtual 277, 3, 173, 0, 0), (67, .aload_n 0, 1, 0, 0, 0), (68, .getfield 109, 3, 912, 0, 0), (71, .ifCond .le 18, 3, 89, 0, 0), (74, .aload_n 0, 1, 0, 0, 0), (75, .iconst 4, 1, 0, 4, 0), (76, .putfield 54, 3, 901, 0, 0), (79, .aload_n 0, 1, 0, 0, 0), (80, .aload_n 0, 1, 0, 0, 0), (81, .getfield 112, 3, 913, 0, 0), (84, .putfield 9, 3, 902, 0, 0), (87, .iconst (-1), 1, 0, (-1), 0), (88, .ireturn, 1, 0, 0, 0), (89, .aload_n 0, 1, 0, 0, 0), (90, .aload_n 0, 1, 0, 0, 0), (91, .getfield 148, 3, 904, 0, 0), (94, .putfield 280, 3, 903, 0, 0), (97, .aload_n 0, 1, 0, 0, 0), (98, .invokevirtual 282, 3, 189, 0, 0), (101, .iconst 0, 1, 0, 0, 0), (102, .istore_n 2, 1, 0, 0, 0), (103, .iload_n 2, 1, 0, 0, 0), (104, .bipush 47, 2, 0, 47, 0), (106, .if_icmp .ge 21, 3, 127, 0, 0), (109, .aload_n 0, 1, 0, 0, 0), (110, .getfield 17, 3, 916, 0, 0), (113, .iload_n 2, 1, 0, 0, 0), (114, .aload_n 0, 1, 0, 0, 0), (115, .getfield 21, 3, 917, 0, 0), (118, .iload_n 2, 1, 0, 0, 0), (119, .iaload, 1, 0, 0, 0), (120, .iastore, 1, 0, 0, 0), (121, .iinc 2 1, 3, 0, 1, 0), (124, .goto (-21), 3, 103, 0, 0), (127, .aload_n 0, 1, 0, 0, 0), (128, .iconst 0, 1, 0, 0, 0), (129, .putfield 285, 3, 920, 0, 0), (132, .aload_n 0, 1, 0, 0, 0), (133, .iconst 0, 1, 0, 0, 0), (134, .putfield 288, 3, 921, 0, 0), (137, .aload_n 0, 1, 0, 0, 0), (138, .aload_n 0, 1, 0, 0, 0), (139, .getfield 280, 3, 903, 0, 0), (142, .getfield 170, 3, 802, 0, 0), (145, .invokevirtual 61, 3, 154, 0, 0), (148, .ireturn, 1, 0, 0, 0)]
/-- LastAskedModel.fault()I -/
def xc_184 : List xCe := [(0, .aload_n 0, 1, 0, 0, 0), (1, .iconst 0, 1, 0, 0, 0), (2, .putfield 51, 3, 900, 0, 0), (5, .aload_n 0, 1, 0, 0, 0), (6, .getfield 109, 3, 912, 0, 0), (9, .ireturn, 1, 0, 0, 0)]
/-- LastAskedModel.where()I -/
def xc_185 : List xCe := [(0, .aload_n 0, 1, 0, 0, 0), (1, .iconst 0, 1, 0, 0, 0), (2, .putfield 51, 3, 900, 0, 0), (5, .aload_n 0, 1, 0, 0, 0), (6, .getfield 9, 3, 902, 0, 0), (9, .ireturn, 1, 0, 0, 0)]
/-- LastAskedModel.isPerson(I)Z -/
def xc_186 : List xCe := [(0, .aload_n 0, 1, 0, 0, 0), (1, .getfield 280, 3, 903, 0, 0), (4, .ifnull 22, 3, 26, 0, 0), (7, .iload_n 1, 1, 0, 0, 0), (8, .ifCond .lt 18, 3, 26, 0, 0), (11, .iload_n 1, 1, 0, 0, 0), (12, .aload_n 0, 1, 0, 0, 0), (13, .getfield 280, 3, 903, 0, 0), (16, .getfield 170, 3, 802, 0, 0), (19, .if_icmp .ge 7, 3, 26, 0, 0), (22, .iconst 1, 1, 0, 1, 0), (23, .goto 4, 3, 27, 0, 0), (26, .iconst 0, 1, 0, 0, 0), (27, .ireturn, 1, 0, 0, 0)]
/-- LastAskedModel.areTwo(II)Z -/
def xc_187 : List xCe := [(0, .aload_n 0, 1, 0, 0, 0), (1, .iload_n 1, 1, 0, 0, 0), (2, .invokevirtual 291, 3, 186, 0, 0), (5, .ifCond .eq 20, 3, 25, 0, 0), (8, .aload_n 0, 1, 0, 0, 0), (9, .iload_n 2, 1, 0, 0, 0), (10, .invokevirtual 291, 3, 186, 0, 0), (13, .ifCond .eq 12, 3, 25, 0, 0), (16, .iload_n 1, 1, 0, 0, 0), (17, .iload_n 2, 1, 0, 0, 0), (18, .if_icmp .eq 7, 3, 25, 0, 0), (21, .iconst 1, 1, 0, 1, 0), (22, .goto 4, 3, 26, 0, 0), (25, .iconst 0, 1, 0, 0, 0), (26, .ireturn, 1, 0, 0, 0)]
/-- LastAskedModel.works()V -/
def xc_188 : List xCe := [(0, .iconst 0, 1, 0, 0, 0), (1, .istore_n 1, 1, 0, 0, 0), (2, .iload_n 1, 1, 0, 0, 0), (3, .bipush 47, 2, 0, 47, 0), (5, .if_icmp .ge 21, 3, 26, 0, 0), (8, .aload_n 0, 1, 0, 0, 0), (9, .getfield 21, 3, 917, 0, 0), (12, .iload_n 1, 1, 0, 0, 0), (13, .aload_n 0, 1, 0, 0, 0), (14, .getfield 17, 3, 916, 0, 0), (17, .iload_n 1, 1, 0, 0, 0), (18, .iaload, 1, 0, 0, 0), (19, .iastore, 1, 0, 0, 0), (20, .iinc 1 1, 3, 0, 1, 0), (23, .goto (-21), 3, 2, 0, 0), (26, .return_, 1, 0, 0, 0)]
/-- LastAskedModel.asTold()V -/
def xc_189 : List xCe := [(0, .iconst 0, 1, 0, 0, 0), (1, .istore_n 1, 1, 0, 0, 0), (2, .iload_n 1, 1, 0, 0, 0), (3, .bipush 47, 2, 0, 47, 0), (5, .if_icmp .ge 16, 3, 21, 0, 0), (8, .aload_n 0, 1, 0, 0, 0), (9, .getfield 21, 3, 917, 0, 0), (12, .iload_n 1, 1, 0, 0, 0), (13, .iconst 0, 1, 0, 0, 0), (14, .iastore, 1, 0, 0, 0), (15, .iinc 1 1, 3, 0, 1, 0), (18, .goto (-16), 3, 2, 0, 0), (21, .iconst 0, 1, 0, 0, 0), (22, .istore_n 1, 1, 0, 0, 0), (23, .iload_n 1, 1, 0, 0, 0), (24, .bipush 6, 2, 0, 6, 0), (26, .if_icmp .ge 24, 3, 50, 0, 0), (29, .aload_n 0, 1, 0, 0, 0), (30, .getfield 21, 3, 917, 0, 0), (33, .iload_n 1, 1, 0, 0, 0), (34, .aload_n 0, 1, 0, 0, 0), (35, .getfield 280, 3, 903, 0, 0), (38, .getfield 223, 3, 808, 0, 0), (41, .iload_n 1, 1, 0, 0, 0), (42, .iaload, 1, 0, 0, 0), (43, .iastore, 1, 0, 0, 0), (44, .iinc 1 1, 3, 0, 1, 0), (47, .goto (-24), 3, 23, 0, 0), (50, .iconst 0, 1, 0, 0, 0), (51, .istore_n 1, 1, 0, 0, 0), (52, .iload_n 1, 1, 0, 0, 0), (53, .bipush 36, 2, 0, 36, 0), (55, .if_icmp .ge 27, 3, 82, 0, 0), (58, .aload_n 0, 1, 0, 0, 0), (59, .getfield 21, 3, 917, 0, 0), (62, .bipush 6, 2, 0, 6, 0), (64, .iload_n 1, 1, 0, 0, 0), (65, .iadd, 1, 0, 0, 0), (66, .aload_n 0, 1, 0, 0, 0), (67, .getfield 280, 3, 903, 0, 0), (70, .getfield 242, 3, 812, 0, 0), (73, .iload_n 1, 1, 0, 0, 0), (74, .iaload, 1, 0, 0, 0), (75, .iastore, 1, 0, 0, 0), (76, .iinc 1 1, 3, 0, 1, 0), (79, .goto (-27), 3, 52, 0, 0), (82, .aload_n 0, 1, 0, 0, 0), (83, .getfield 21, 3, 917, 0, 0), (86, .bipush 42, 2, 0, 42, 0), (88, .iconst 1, 1, 0, 1, 0), (89, .aload_n 0, 1, 0, 0, 0), (90, .getfield 280, 3, 903, 0, 0), (93, .getfield 170, 3, 802, 0, 0), (96, .ishl, 1, 0, 0, 0), (97, .iconst 1, 1, 0, 1, 0), (98, .isub, 1, 0, 0, 0), (99, .iastore, 1, 0, 0, 0), (100, .aload_n 0, 1, 0, 0, 0), (101, .getfield 21, 3, 917, 0, 0), (104, .bipush 44, 2, 0, 44, 0), (106, .aload_n 0, 1, 0, 0, 0), (107, .getfield 280, 3, 903, 0, 0), (110, .getfield 152, 3, 800, 0, 0), (113, .iastore, 1, 0, 0, 0), (114, .return_, 1, 0, 0, 0)]
/-- LastAskedModel.isLiving(I)Z -/
def xc_190 : List xCe := [(0, .aload_n 0, 1, 0, 0, 0), (1, .getfield 21, 3, 917, 0, 0), (4, .bipush 42, 2, 0, 42, 0), (6, .iaload, 1, 0, 0, 0), (7, .iload_n 1, 1, 0, 0, 0), (8, .invokestatic 235, 3, 157, 0, 0), (11, .ireturn, 1, 0, 0, 0)]
/-- LastAskedModel.asked(II)I -/
def xc_191 : List xCe := [(0, .aload_n 0, 1, 0, 0, 0), (1, .getfield 21, 3, 917, 0, 0), (4, .bipush 6, 2, 0, 6, 0), (6, .bipush 6, 2, 0, 6, 0), (8, .iload_n 1, 1, 0, 0, 0), (9, .imul, 1, 0, 0, 0), (10, .iadd, 1, 0, 0, 0), (11, .iload_n 2, 1, 0, 0, 0), (12, .iadd, 1, 0, 0, 0), (13, .iaload, 1, 0, 0, 0), (14, .ireturn, 1, 0, 0, 0)]
/-- LastAskedModel.heirOf(I)I -/
def xc_192 : List xCe := [(0, .bipush (-2), 2, 0, (-2), 0), (2, .istore_n 2, 1, 0, 0, 0), (3, .iconst 0, 1, 0, 0, 0), (4, .istore_n 3, 1, 0, 0, 0), (5, .iload_n 3, 1, 0, 0, 0), (6, .aload_n 0, 1, 0, 0, 0), (7, .getfield 280, 3, 903, 0, 0), (10, .getfield 170, 3, 802, 0, 0), (13, .if_icmp .ge 58, 3, 71, 0, 0), (16, .iload_n 3, 1, 0, 0, 0), (17, .iload_n 1, 1, 0, 0, 0), (18, .if_icmp .eq 47, 3, 65, 0, 0), (21, .aload_n 0, 1, 0, 0, 0), (22, .iload_n 3, 1, 0, 0, 0), (23, .invokevirtual 294, 3, 190, 0, 0), (26, .ifCond .eq 39, 3, 65, 0, 0), (29, .aload_n 0, 1, 0, 0, 0), (30, .iload_n 3, 1, 0, 0, 0), (31, .iload_n 1, 1, 0, 0, 0), (32, .invokevirtual 297, 3, 191, 0, 0), (35, .iconst (-1), 1, 0, (-1), 0), (36, .if_icmp .ne 6, 3, 42, 0, 0), (39, .goto 26, 3, 65, 0, 0), (42, .iload_n 2, 1, 0, 0, 0), (43, .bipush (-2), 2, 0, (-2), 0), (45, .if_icmp .eq 18, 3, 63, 0, 0), (48, .aload_n 0, 1, 0, 0, 0), (49, .iload_n 3, 1, 0, 0, 0), (50, .iload_n 1, 1, 0, 0, 0), (51, .invokevirtual 297, 3, 191, 0, 0), (54, .aload_n 0, 1, 0, 0, 0), (55, .iload_n 2, 1, 0, 0, 0), (56, .iload_n 1, 1, 0, 0, 0), (57, .invokevirtual 297, 3, 191, 0, 0), (60, .if_icmp .le 5, 3, 65, 0, 0), (63, .iload_n 3, 1, 0, 0, 0), (64, .istore_n 2, 1, 0, 0, 0), (65, .iinc 3 1, 3, 0, 1, 0), (68, .goto (-63), 3, 5, 0, 0), (71, .iload_n 2, 1, 0, 0, 0), (72, .ireturn, 1, 0, 0, 0)]
/-- LastAskedModel.heirs()V -/
def xc_193 : List xCe := [(0, .iconst 0, 1, 0, 0, 0), (1, .istore_n 1, 1, 0, 0, 0), (2, .iload_n 1, 1, 0, 0, 0), (3, .aload_n 0, 1, 0, 0, 0), (4, .getfield 280, 3, 903, 0, 0), (7, .getfield 170, 3, 802, 0, 0), (10, .if_icmp .ge 20, 3, 30, 0, 0), (13, .aload_n 0, 1, 0, 0, 0), (14, .getfield 30, 3, 922, 0, 0), (17, .iload_n 1, 1, 0, 0, 0), (18, .aload_n 0, 1, 0, 0, 0), (19, .iload_n 1, 1, 0, 0, 0), (20, .invokevirtual 300, 3, 192, 0, 0), (23, .iastore, 1, 0, 0, 0), (24, .iinc 1 1, 3, 0, 1, 0), (27, .goto (-25), 3, 2, 0, 0), (30, .return_, 1, 0, 0, 0)]
/-- LastAskedModel.goes(II)I -/
def xc_194 : List xCe := [(0, .iconst 0, 1, 0, 0, 0), (1, .istore_n 3, 1, 0, 0, 0), (2, .iload_n 1, 1, 0, 0, 0), (3, .istore 4, 2, 0, 0, 0), (5, .iload 4, 2, 0, 0, 0), (7, .bipush (-2), 2, 0, (-2), 0), (9, .if_icmp .eq 43, 3, 52, 0, 0), (12, .iload_n 2, 1, 0, 0, 0), (13, .iload 4, 2, 0, 0, 0), (15, .invokestatic 235, 3, 157, 0, 0), (18, .ifCond .eq 34, 3, 52, 0, 0), (21, .iload_n 3, 1, 0, 0, 0), (22, .iload 4, 2, 0, 0, 0), (24, .invokestatic 235, 3, 157, 0, 0), (27, .ifCond .eq 6, 3, 33, 0, 0), (30, .bipush (-2), 2, 0, (-2), 0), (32, .ireturn, 1, 0, 0, 0), (33, .iload_n 3, 1, 0, 0, 0), (34, .iconst 1, 1, 0, 1, 0), (35, .iload 4, 2, 0, 0, 0), (37, .ishl, 1, 0, 0, 0), (38, .ior, 1, 0, 0, 0), (39, .istore_n 3, 1, 0, 0, 0), (40, .aload_n 0, 1, 0, 0, 0), (41, .getfield 30, 3, 922, 0, 0), (44, .iload 4, 2, 0, 0, 0), (46, .iaload, 1, 0, 0, 0), (47, .istore 4, 2, 0, 0, 0), (49, .goto (-44), 3, 5, 0, 0), (52, .iload 4, 2, 0, 0, 0), (54, .ireturn, 1, 0, 0, 0)]
/-- LastAskedModel.dying(I)V -/
def xc_195 : List xCe := [(0, .aload_n 0, 1, 0, 0, 0), (1, .iconst 0, 1, 0, 0, 0), (2, .putfield 303, 3, 924, 0, 0), (5, .iconst 0, 1, 0, 0, 0), (6, .istore_n 2, 1, 0, 0, 0), (7, .iload_n 2, 1, 0, 0, 0), (8, .aload_n 0, 1, 0, 0, 0), (9, .getfield 280, 3, 903, 0, 0), (12, .getfield 170, 3, 802, 0, 0), (15, .if_icmp .ge 41, 3, 56, 0, 0), (18, .aload_n 0, 1, 0, 0, 0), (19, .getfield 33, 3, 923, 0, 0), (22, .iload_n 2, 1, 0, 0, 0), (23, .iload_n 1, 1, 0, 0, 0), (24, .iload_n 2, 1, 0, 0, 0), (25, .invokestatic 235, 3, 157, 0, 0), (28, .ifCond .ne 11, 3, 39, 0, 0), (31, .aload_n 0, 1, 0, 0, 0), (32, .iload_n 2, 1, 0, 0, 0), (33, .invokevirtual 294, 3, 190, 0, 0), (36, .ifCond .ne 7, 3, 43, 0, 0), (39, .iconst 0, 1, 0, 0, 0), (40, .goto 9, 3, 49, 0, 0), (43, .aload_n 0, 1, 0, 0, 0), (44, .getfield 21, 3, 917, 0, 0), (47, .iload_n 2, 1, 0, 0, 0), (48, .iaload, 1, 0, 0, 0), (49, .iastore, 1, 0, 0, 0), (50, .iinc 2 1, 3, 0, 1, 0), (53, .goto (-46), 3, 7, 0, 0), (56, .iconst 0, 1, 0, 0, 0), (57, .istore_n 2, 1, 0, 0, 0), (58, .iload_n 2, 1, 0, 0, 0), (59, .aload_n 0, 1, 0, 0, 0), (60, .getfield 280, 3, 903, 0, 0), (63, .getfield 170, 3, 802, 0, 0), (66, .if_icmp .ge 66, 3, 132, 0, 0), (69, .iload_n 1, 1, 0, 0, 0), (70, .iload_n 2, 1, 0, 0, 0), (71, .invokestatic 235, 3, 157, 0, 0), (74, .ifCond .ne 6, 3, 80, 0, 0), (77, .goto 49, 3, 126, 0, 0), (80, .aload_n 0, 1, 0, 0, 0), (81, .iload_n 2, 1, 0, 0, 0), (82, .iload_n 1, 1, 0, 0, 0), (83, .invokevirtual 306, 3, 194, 0, 0), (86, .istore_n 3, 1, 0, 0, 0), (87, .iload_n 3, 1, 0, 0, 0), (88, .bipush (-2), 2, 0, (-2), 0), (90, .if_icmp .ne 21, 3, 111, 0, 0), (93, .aload_n 0, 1, 0, 0, 0), (94, .dup, 1, 0, 0, 0), (95, .getfield 303, 3, 924, 0, 0), (98, .aload_n 0, 1, 0, 0, 0), (99, .getfield 21, 3, 917, 0, 0), (102, .iload_n 2, 1, 0, 0, 0), (103, .iaload, 1, 0, 0, 0), (104, .iadd, 1, 0, 0, 0), (105, .putfield 303, 3, 924, 0, 0), (108, .goto 18, 3, 126, 0, 0), (111, .aload_n 0, 1, 0, 0, 0), (112, .getfield 33, 3, 923, 0, 0), (115, .iload_n 3, 1, 0, 0, 0), (116, .dup2, 1, 0, 0, 0), (117, .iaload, 1, 0, 0, 0), (118, .aload_n 0, 1, 0, 0, 0), (119, .getfield 21, 3, 917, 0, 0), (122, .iload_n 2, 1, 0, 0, 0), (123, .iaload, 1, 0, 0, 0), (124, .iadd, 1, 0, 0, 0), (125, .iastore, 1, 0, 0, 0), (126, .iinc 2 1, 3, 0, 1, 0), (129, .goto (-71), 3, 58, 0, 0), (132, .return_, 1, 0, 0, 0)]
/-- LastAskedModel.dieAll(IZ)V -/
def xc_196 : List xCe := [(0, .aload_n 0, 1, 0, 0, 0), (1, .invokevirtual 309, 3, 193, 0, 0), (4, .aload_n 0, 1, 0, 0, 0), (5, .iload_n 1, 1, 0, 0, 0), (6, .invokevirtual 312, 3, 195, 0, 0), (9, .iconst 0, 1, 0, 0, 0), (10, .istore_n 3, 1, 0, 0, 0), (11, .iload_n 3, 1, 0, 0, 0), (12, .aload_n 0, 1, 0, 0, 0), (13, .getfield 280, 3, 903, 0, 0), (16, .getfield 170, 3, 802, 0, 0), (19, .if_icmp .ge 21, 3, 40, 0, 0), (22, .aload_n 0, 1, 0, 0, 0), (23, .getfield 21, 3, 917, 0, 0), (26, .iload_n 3, 1, 0, 0, 0), (27, .aload_n 0, 1, 0, 0, 0), (28, .getfield 33, 3, 923, 0, 0), (31, .iload_n 3, 1, 0, 0, 0), (32, .iaload, 1, 0, 0, 0), (33, .iastore, 1, 0, 0, 0), (34, .iinc 3 1, 3, 0, 1, 0), (37, .goto (-26), 3, 11, 0, 0), (40, .aload_n 0, 1, 0, 0, 0), (41, .getfield 21, 3, 917, 0, 0), (44, .bipush 43, 2, 0, 43, 0), (46, .dup2, 1, 0, 0, 0), (47, .iaload, 1, 0, 0, 0), (48, .aload_n 0, 1, 0, 0, 0), (49, .getfield 303, 3, 924, 0, 0), (52, .iadd, 1, 0, 0, 0), (53, .iastore, 1, 0, 0, 0), (54, .aload_n 0, 1, 0, 0, 0), (55, .getfield 21, 3, 917, 0, 0), (58, .bipush 42, 2, 0, 42, 0), (60, .dup2, 1, 0, 0, 0), (61, .iaload, 1, 0, 0, 0), (62, .iload_n 1, 1, 0, 0, 0), (63, .iconst (-1), 1, 0, (-1), 0), (64, .ixor, 1, 0, 0, 0), (65, .iand, 1, 0, 0, 0), (66, .iastore, 1, 0, 0, 0), (67, .iload_n 2, 1, 0, 0, 0), (68, .ifCond .eq 14, 3, 82, 0, 0), (71, .aload_n 0, 1, 0, 0, 0), (72, .getfield 21, 3, 917, 0, 0), (75, .bipush 45, 2, 0, 45, 0), (77, .dup2, 1, 0, 0, 0), (78, .iaload, 1, 0, 0, 0), (79, .iconst 1, 1, 0, 1, 0), (80, .iadd, 1, 0, 0, 0), (81, .iastore, 1, 0, 0, 0), (82, .return_, 1, 0, 0, 0)]
/-- LastAskedModel.worksWithHeirs()V -/
def xc_197 : List xCe := [(0, .aload_n 0, 1, 0, 0, 0), (1, .invokevirtual 315, 3, 188, 0, 0), (4, .aload_n 0, 1, 0, 0, 0), (5, .invokevirtual 309, 3, 193, 0, 0), (8, .return_, 1, 0, 0, 0)]
/-- LastAskedModel.near(I)I -/
def xc_198 : List xCe := [(0, .aload_n 0, 1, 0, 0, 0), (1, .getfield 280, 3, 903, 0, 0), (4, .getfield 233, 3, 810, 0, 0), (7, .iload_n 1, 1, 0, 0, 0), (8, .iaload, 1, 0, 0, 0), (9, .ireturn, 1, 0, 0, 0)]
/-- LastAskedModel.canAsk(I)I -/
def xc_199 : List xCe := [(0, .iconst 0, 1, 0, 0, 0), (1, .istore_n 2, 1, 0, 0, 0), (2, .iconst 0, 1, 0, 0, 0), (3, .istore_n 3, 1, 0, 0, 0), (4, .iload_n 3, 1, 0, 0, 0), (5, .aload_n 0, 1, 0, 0, 0), (6, .getfield 280, 3, 903, 0, 0), (9, .getfield 170, 3, 802, 0, 0), (12, .if_icmp .ge 64, 3, 76, 0, 0), (15, .iload_n 2, 1, 0, 0, 0), (16, .iload_n 3, 1, 0, 0, 0), (17, .iload_n 1, 1, 0, 0, 0), (18, .if_icmp .eq 49, 3, 67, 0, 0), (21, .aload_n 0, 1, 0, 0, 0), (22, .getfield 17, 3, 916, 0, 0), (25, .bipush 42, 2, 0, 42, 0), (27, .iaload, 1, 0, 0, 0), (28, .iload_n 1, 1, 0, 0, 0), (29, .invokestatic 235, 3, 157, 0, 0), (32, .ifCond .eq 35, 3, 67, 0, 0), (35, .aload_n 0, 1, 0, 0, 0), (36, .getfield 17, 3, 916, 0, 0), (39, .bipush 42, 2, 0, 42, 0), (41, .iaload, 1, 0, 0, 0), (42, .iload_n 3, 1, 0, 0, 0), (43, .invokestatic 235, 3, 157, 0, 0), (46, .ifCond .eq 21, 3, 67, 0, 0), (49, .aload_n 0, 1, 0, 0, 0), (50, .getfield 280, 3, 903, 0, 0), (53, .iload_n 1, 1, 0, 0, 0), (54, .iload_n 3, 1, 0, 0, 0), (55, .invokevirtual 244, 3, 148, 0, 0), (58, .ifCond .eq 9, 3, 67, 0, 0), (61, .iconst 1, 1, 0, 1, 0), (62, .iload_n 3, 1, 0, 0, 0), (63, .ishl, 1, 0, 0, 0), (64, .goto 4, 3, 68, 0, 0), (67, .iconst 0, 1, 0, 0, 0), (68, .ior, 1, 0, 0, 0), (69, .istore_n 2, 1, 0, 0, 0), (70, .iinc 3 1, 3, 0, 1, 0), (73, .goto (-69), 3, 4, 0, 0), (76, .iload_n 2, 1, 0, 0, 0), (77, .ireturn, 1, 0, 0, 0)]
/-- LastAskedModel.canBeAsked(I)I -/
def xc_200 : List xCe := [(0, .iconst 0, 1, 0, 0, 0), (1, .istore_n 2, 1, 0, 0, 0), (2, .iconst 0, 1, 0, 0, 0), (3, .istore_n 3, 1, 0, 0, 0), (4, .iload_n 3, 1, 0, 0, 0), (5, .aload_n 0, 1, 0, 0, 0), (6, .getfield 280, 3, 903, 0, 0), (9, .getfield 170, 3, 802, 0, 0), (12, .if_icmp .ge 36, 3, 48, 0, 0), (15, .iload_n 2, 1, 0, 0, 0), (16, .iload_n 3, 1, 0, 0, 0), (17, .iload_n 1, 1, 0, 0, 0), (18, .if_icmp .eq 21, 3, 39, 0, 0), (21, .aload_n 0, 1, 0, 0, 0), (22, .iload_n 3, 1, 0, 0, 0), (23, .invokevirtual 318, 3, 199, 0, 0), (26, .iload_n 1, 1, 0, 0, 0), (27, .invokestatic 235, 3, 157, 0, 0), (30, .ifCond .eq 9, 3, 39, 0, 0), (33, .iconst 1, 1, 0, 1, 0), (34, .iload_n 3, 1, 0, 0, 0), (35, .ishl, 1, 0, 0, 0), (36, .goto 4, 3, 40, 0, 0), (39, .iconst 0, 1, 0, 0, 0), (40, .ior, 1, 0, 0, 0), (41, .istore_n 2, 1, 0, 0, 0), (42, .iinc 3 1, 3, 0, 1, 0), (45, .goto (-41), 3, 4, 0, 0), (48, .iload_n 2, 1, 0, 0, 0), (49, .ireturn, 1, 0, 0, 0)]
/-- LastAskedModel.person(II)I -/
def xc_201 : List xCe := [(0, .aload_n 0, 1, 0, 0, 0), (1, .iconst 0, 1, 0, 0, 0), (2, .putfield 51, 3, 900, 0, 0), (5, .aload_n 0, 1, 0, 0, 0), (6, .iload_n 1, 1, 0, 0, 0), (7, .invokevirtual 291, 3, 186, 0, 0), (10, .ifCond .eq 13, 3, 23, 0, 0), (13, .iload_n 2, 1, 0, 0, 0), (14, .iconst 0, 1, 0, 0, 0), (15, .bipush 6, 2, 0, 6, 0), (17, .invokestatic 130, 3, 156, 0, 0), (20, .ifCond .ne 9, 3, 29, 0, 0), (23, .aload_n 0, 1, 0, 0, 0), (24, .iconst 1, 1, 0, 1, 0), (25, .invokevirtual 57, 3, 151, 0, 0), (28, .ireturn, 1, 0, 0, 0), (29, .iload_n 2, 1, 0, 0, 0), (30, .tableswitch 113 0 5 #[38, 52, 63, 77, 93, 103], 38, 0, 0, 0), (68, .aload_n 0, 1, 0, 0, 0), (69, .aload_n 0, 1, 0, 0, 0), (70, .getfield 280, 3, 903, 0, 0), (73, .getfield 220, 3, 807, 0, 0), (76, .iload_n 1, 1, 0, 0, 0), (77, .iaload, 1, 0, 0, 0), (78, .invokevirtual 61, 3, 154, 0, 0), (81, .ireturn, 1, 0, 0, 0), (82, .aload_n 0, 1, 0, 0, 0), (83, .aload_n 0, 1, 0, 0, 0), (84, .getfield 17, 3, 916, 0, 0), (87, .iload_n 1, 1, 0, 0, 0), (88, .iaload, 1, 0, 0, 0), (89, .invokevirtual 61, 3, 154, 0, 0), (92, .ireturn, 1, 0, 0, 0), (93, .aload_n 0, 1, 0, 0, 0), (94, .aload_n 0, 1, 0, 0, 0), (95, .getfield 280, 3, 903, 0, 0), (98, .getfield 225, 3, 809, 0, 0), (101, .iload_n 1, 1, 0, 0, 0), (102, .iaload, 1, 0, 0, 0), (103, .invokevirtual 61, 3, 154, 0, 0), (106, .ireturn, 1, 0, 0, 0), (107, .aload_n 0, 1, 0, 0, 0), (108, .aload_n 0, 1, 0, 0, 0), (109, .getfield 17, 3, 916, 0, 0), (112, .bipush 42, 2, 0, 42, 0), (114, .iaload, 1, 0, 0, 0), (115, .iload_n 1, 1, 0, 0, 0), (116, .ishr, 1, 0, 0, 0), (117, .iconst 1, 1, 0, 1, 0), (118, .iand, 1, 0, 0, 0), (119, .invokevirtual 61, 3, 154, 0, 0), (122, .ireturn, 1, 0, 0, 0), (123, .aload_n 0, 1, 0, 0, 0), (124, .aload_n 0, 1, 0, 0, 0), (125, .iload_n 1, 1, 0, 0, 0), (126, .invokevirtual 321, 3, 198, 0, 0), (129, .invokevirtual 61, 3, 154, 0, 0), (132, .ireturn, 1, 0, 0, 0), (133, .aload_n 0, 1, 0, 0, 0), (134, .aload_n 0, 1, 0, 0, 0), (135, .iload_n 1, 1, 0, 0, 0), (136, .invokevirtual 318, 3, 199, 0, 0), (139, .invokevirtual 61, 3, 154, 0, 0), (142, .ireturn, 1, 0, 0, 0), (143, .aload_n 0, 1, 0, 0, 0), (144, .aload_n 0, 1, 0, 0, 0), (145, .iload_n 1, 1, 0, 0, 0), (146, .invokevirtual 323, 3, 200, 0, 0), (149, .invokevirtual 61, 3, 154, 0, 0), (152, .ireturn, 1, 0, 0, 0)]
/-- LastAskedModel.register(II)I -/
def xc_202 : List xCe := [(0, .aload_n 0, 1, 0, 0, 0), (1, .iconst 0, 1, 0, 0, 0), (2, .putfield 51, 3, 900, 0, 0), (5, .aload_n 0, 1, 0, 0, 0), (6, .iload_n 1, 1, 0, 0, 0), (7, .iload_n 2, 1, 0, 0, 0), (8, .invokevirtual 326, 3, 187, 0, 0), (11, .ifCond .ne 9, 3, 20, 0, 0), (14, .aload_n 0, 1, 0, 0, 0), (15, .iconst 1, 1, 0, 1, 0), (16, .invokevirtual 57, 3, 151, 0, 0), (19, .ireturn, 1, 0, 0, 0), (20, .aload_n 0, 1, 0, 0, 0), (21, .getfield 17, 3, 916, 0, 0), (24, .bipush 6, 2, 0, 6, 0), (26, .bipush 6, 2, 0, 6, 0), (28, .iload_n 1, 1, 0, 0, 0), (29, .imul, 1, 0, 0, 0), (30, .iadd, 1, 0, 0, 0), (31, .iload_n 2, 1, 0, 0, 0), (32, .iadd, 1, 0, 0, 0), (33, .iaload, 1, 0, 0, 0), (34, .istore_n 3, 1, 0, 0, 0), (35, .aload_n 0, 1, 0, 0, 0), (36, .iload_n 3, 1, 0, 0, 0), (37, .iconst (-1), 1, 0, (-1), 0), (38, .if_icmp .ne 8, 3, 46, 0, 0), (41, .bipush (-2), 2, 0, (-2), 0), (43, .goto 4, 3, 47, 0, 0), (46, .iload_n 3, 1, 0, 0, 0), (47, .invokevirtual 61, 3, 154, 0, 0), (50, .ireturn, 1, 0, 0, 0)]
/-- LastAskedModel.refusesLiving(I)I -/
def xc_203 : List xCe := [(0, .aload_n 0, 1, 0, 0, 0), (1, .iload_n 1, 1, 0, 0, 0), (2, .invokevirtual 291, 3, 186, 0, 0), (5, .ifCond .ne 7, 3, 12, 0, 0), (8, .iconst 1, 1, 0, 1, 0), (9, .goto 22, 3, 31, 0, 0), (12, .aload_n 0, 1, 0, 0, 0), (13, .getfield 17, 3, 916, 0, 0), (16, .bipush 42, 2, 0, 42, 0), (18, .iaload, 1, 0, 0, 0), (19, .iload_n 1, 1, 0, 0, 0), (20, .invokestatic 235, 3, 157, 0, 0), (23, .ifCond .eq 7, 3, 30, 0, 0), (26, .iconst 0, 1, 0, 0, 0), (27, .goto 4, 3, 31, 0, 0), (30, .iconst 5, 1, 0, 5, 0), (31, .ireturn, 1, 0, 0, 0)]
/-- LastAskedModel.heir(I)I -/
def xc_204 : List xCe := [(0, .aload_n 0, 1, 0, 0, 0), (1, .iconst 0, 1, 0, 0, 0), (2, .putfield 51, 3, 900, 0, 0), (5, .aload_n 0, 1, 0, 0, 0), (6, .iload_n 1, 1, 0, 0, 0), (7, .invokevirtual 329, 3, 203, 0, 0), (10, .istore_n 2, 1, 0, 0, 0), (11, .iload_n 2, 1, 0, 0, 0), (12, .ifCond .le 9, 3, 21, 0, 0), (15, .aload_n 0, 1, 0, 0, 0), (16, .iload_n 2, 1, 0, 0, 0), (17, .invokevirtual 57, 3, 151, 0, 0), (20, .ireturn, 1, 0, 0, 0), (21, .aload_n 0, 1, 0, 0, 0), (22, .invokevirtual 315, 3, 188, 0, 0), (25, .aload_n 0, 1, 0, 0, 0), (26, .aload_n 0, 1, 0, 0, 0), (27, .iload_n 1, 1, 0, 0, 0), (28, .invokevirtual 300, 3, 192, 0, 0), (31, .invokevirtual 61, 3, 154, 0, 0), (34, .ireturn, 1, 0, 0, 0)]
/-- LastAskedModel.inheritsOf(I)I -/
def xc_205 : List xCe := [(0, .iconst 0, 1, 0, 0, 0), (1, .istore_n 2, 1, 0, 0, 0), (2, .iconst 0, 1, 0, 0, 0), (3, .istore_n 3, 1, 0, 0, 0), (4, .iload_n 3, 1, 0, 0, 0), (5, .aload_n 0, 1, 0, 0, 0), (6, .getfield 280, 3, 903, 0, 0), (9, .getfield 170, 3, 802, 0, 0), (12, .if_icmp .ge 37, 3, 49, 0, 0), (15, .iload_n 2, 1, 0, 0, 0), (16, .aload_n 0, 1, 0, 0, 0), (17, .iload_n 3, 1, 0, 0, 0), (18, .invokevirtual 294, 3, 190, 0, 0), (21, .ifCond .eq 19, 3, 40, 0, 0), (24, .aload_n 0, 1, 0, 0, 0), (25, .getfield 30, 3, 922, 0, 0), (28, .iload_n 3, 1, 0, 0, 0), (29, .iaload, 1, 0, 0, 0), (30, .iload_n 1, 1, 0, 0, 0), (31, .if_icmp .ne 9, 3, 40, 0, 0), (34, .iconst 1, 1, 0, 1, 0), (35, .iload_n 3, 1, 0, 0, 0), (36, .ishl, 1, 0, 0, 0), (37, .goto 4, 3, 41, 0, 0), (40, .iconst 0, 1, 0, 0, 0), (41, .ior, 1, 0, 0, 0), (42, .istore_n 2, 1, 0, 0, 0), (43, .iinc 3 1, 3, 0, 1, 0), (46, .goto (-42), 3, 4, 0, 0), (49, .iload_n 2, 1, 0, 0, 0), (50, .ireturn, 1, 0, 0, 0)]
/-- LastAskedModel.heirTo(I)I -/
def xc_206 : List xCe := [(0, .aload_n 0, 1, 0, 0, 0), (1, .iconst 0, 1, 0, 0, 0), (2, .putfield 51, 3, 900, 0, 0), (5, .aload_n 0, 1, 0, 0, 0), (6, .iload_n 1, 1, 0, 0, 0), (7, .invokevirtual 291, 3, 186, 0, 0), (10, .ifCond .ne 9, 3, 19, 0, 0), (13, .aload_n 0, 1, 0, 0, 0), (14, .iconst 1, 1, 0, 1, 0), (15, .invokevirtual 57, 3, 151, 0, 0), (18, .ireturn, 1, 0, 0, 0), (19, .aload_n 0, 1, 0, 0, 0), (20, .invokevirtual 332, 3, 197, 0, 0), (23, .aload_n 0, 1, 0, 0, 0), (24, .aload_n 0, 1, 0, 0, 0), (25, .iload_n 1, 1, 0, 0, 0), (26, .invokevirtual 335, 3, 205, 0, 0), (29, .invokevirtual 61, 3, 154, 0, 0), (32, .ireturn, 1, 0, 0, 0)]
/-- LastAskedModel.hopes(I)I -/
def xc_207 : List xCe := [(0, .aload_n 0, 1, 0, 0, 0), (1, .iconst 0, 1, 0, 0, 0), (2, .putfield 51, 3, 900, 0, 0), (5, .aload_n 0, 1, 0, 0, 0), (6, .iload_n 1, 1, 0, 0, 0), (7, .invokevirtual 329, 3, 203, 0, 0), (10, .istore_n 2, 1, 0, 0, 0), (11, .iload_n 2, 1, 0, 0, 0), (12, .ifCond .le 9, 3, 21, 0, 0), (15, .aload_n 0, 1, 0, 0, 0), (16, .iload_n 2, 1, 0, 0, 0), (17, .invokevirtual 57, 3, 151, 0, 0), (20, .ireturn, 1, 0, 0, 0), (21, .aload_n 0, 1, 0, 0, 0), (22, .invokevirtual 332, 3, 197, 0, 0), (25, .aload_n 0, 1, 0, 0, 0), (26, .aload_n 0, 1, 0, 0, 0), (27, .iload_n 1, 1, 0, 0, 0), (28, .invokevirtual 335, 3, 205, 0, 0), (31, .invokevirtual 312, 3, 195, 0, 0), (34, .aload_n 0, 1, 0, 0, 0), (35, .aload_n 0, 1, 0, 0, 0), (36, .getfield 33, 3, 923, 0, 0), (39, .iload_n 1, 1, 0, 0, 0), (40, .iaload, 1, 0, 0, 0), (41, .invokevirtual 61, 3, 154, 0, 0), (44, .ireturn, 1, 0, 0, 0)]
/-- LastAskedModel.cat()I -/
def xc_208 : List xCe := [(0, .aload_n 0, 1, 0, 0, 0), (1, .iconst 0, 1, 0, 0, 0), (2, .putfield 51, 3, 900, 0, 0), (5, .aload_n 0, 1, 0, 0, 0), (6, .getfield 280, 3, 903, 0, 0), (9, .ifnonnull 11, 3, 20, 0, 0), (12, .aload_n 0, 1, 0, 0, 0), (13, .iconst 1, 1, 0, 1, 0), (14, .invokevirtual 57, 3, 151, 0, 0), (17, .goto 14, 3, 31, 0, 0), (20, .aload_n 0, 1, 0, 0, 0), (21, .aload_n 0, 1, 0, 0, 0), (22, .getfield 17, 3, 916, 0, 0), (25, .bipush 43, 2, 0, 43, 0), (27, .iaload, 1, 0, 0, 0), (28, .invokevirtual 61, 3, 154, 0, 0), (31, .ireturn, 1, 0, 0, 0)]
/-- LastAskedModel.richest()I -/
def xc_209 : List xCe := [(0, .aload_n 0, 1, 0, 0, 0), (1, .iconst 0, 1, 0, 0, 0), (2, .putfield 51, 3, 900, 0, 0), (5, .aload_n 0, 1, 0, 0, 0), (6, .getfield 280, 3, 903, 0, 0), (9, .ifnonnull 9, 3, 18, 0, 0), (12, .aload_n 0, 1, 0, 0, 0), (13, .iconst 1, 1, 0, 1, 0), (14, .invokevirtual 57, 3, 151, 0, 0), (17, .ireturn, 1, 0, 0, 0), (18, .bipush (-2), 2, 0, (-2), 0), (20, .istore_n 1, 1, 0, 0, 0), (21, .iconst 0, 1, 0, 0, 0), (22, .istore_n 2, 1, 0, 0, 0), (23, .iload_n 2, 1, 0, 0, 0), (24, .aload_n 0, 1, 0, 0, 0), (25, .getfield 280, 3, 903, 0, 0), (28, .getfield 170, 3, 802, 0, 0), (31, .if_icmp .ge 46, 3, 77, 0, 0), (34, .aload_n 0, 1, 0, 0, 0), (35, .getfield 17, 3, 916, 0, 0), (38, .bipush 42, 2, 0, 42, 0), (40, .iaload, 1, 0, 0, 0), (41, .iload_n 2, 1, 0, 0, 0), (42, .invokestatic 235, 3, 157, 0, 0), (45, .ifCond .eq 26, 3, 71, 0, 0), (48, .iload_n 1, 1, 0, 0, 0), (49, .bipush (-2), 2, 0, (-2), 0), (51, .if_icmp .eq 18, 3, 69, 0, 0), (54, .aload_n 0, 1, 0, 0, 0), (55, .getfield 17, 3, 916, 0, 0), (58, .iload_n 2, 1, 0, 0, 0), (59, .iaload, 1, 0, 0, 0), (60, .aload_n 0, 1, 0, 0, 0), (61, .getfield 17, 3, 916, 0, 0), (64, .iload_n 1, 1, 0, 0, 0), (65, .iaload, 1, 0, 0, 0), (66, .if_icmp .le 5, 3, 71, 0, 0), (69, .iload_n 2, 1, 0, 0, 0), (70, .istore_n 1, 1, 0, 0, 0), (71, .iinc 2 1, 3, 0, 1, 0), (74, .goto (-51), 3, 23, 0, 0), (77, .aload_n 0, 1, 0, 0, 0), (78, .iload_n 1, 1, 0, 0, 0), (79, .invokevirtual 61, 3, 154, 0, 0), (82, .ireturn, 1, 0, 0, 0)]
/-- LastAskedModel.canDie(I)Z -/
def xc_210 : List xCe := [(0, .iload_n 1, 1, 0, 0, 0), (1, .ifCond .lt 34, 3, 35, 0, 0), (4, .iload_n 1, 1, 0, 0, 0), (5, .iconst 1, 1, 0, 1, 0), (6, .aload_n 0, 1, 0, 0, 0), (7, .getfield 280, 3, 903, 0, 0), (10, .getfield 170, 3, 802, 0, 0), (13, .ishl, 1, 0, 0, 0), (14, .if_icmp .ge 21, 3, 35, 0, 0), (17, .iload_n 1, 1, 0, 0, 0), (18, .aload_n 0, 1, 0, 0, 0), (19, .getfield 17, 3, 916, 0, 0), (22, .bipush 42, 2, 0, 42, 0), (24, .iaload, 1, 0, 0, 0), (25, .iconst (-1), 1, 0, (-1), 0), (26, .ixor, 1, 0, 0, 0), (27, .iand, 1, 0, 0, 0), (28, .ifCond .ne 7, 3, 35, 0, 0), (31, .iconst 1, 1, 0, 1, 0), (32, .goto 4, 3, 36, 0, 0), (35, .iconst 0, 1, 0, 0, 0), (36, .ireturn, 1, 0, 0, 0)]
/-- LastAskedModel.goesTo(II)I -/
def xc_211 : List xCe := [(0, .aload_n 0, 1, 0, 0, 0), (1, .iconst 0, 1, 0, 0, 0), (2, .putfield 51, 3, 900, 0, 0), (5, .aload_n 0, 1, 0, 0, 0), (6, .iload_n 1, 1, 0, 0, 0), (7, .invokevirtual 291, 3, 186, 0, 0), (10, .ifCond .ne 9, 3, 19, 0, 0), (13, .aload_n 0, 1, 0, 0, 0), (14, .iconst 1, 1, 0, 1, 0), (15, .invokevirtual 57, 3, 151, 0, 0), (18, .ireturn, 1, 0, 0, 0), (19, .aload_n 0, 1, 0, 0, 0), (20, .iload_n 2, 1, 0, 0, 0), (21, .invokevirtual 338, 3, 210, 0, 0), (24, .ifCond .eq 11, 3, 35, 0, 0), (27, .iload_n 2, 1, 0, 0, 0), (28, .iload_n 1, 1, 0, 0, 0), (29, .invokestatic 235, 3, 157, 0, 0), (32, .ifCond .ne 9, 3, 41, 0, 0), (35, .aload_n 0, 1, 0, 0, 0), (36, .iconst 2, 1, 0, 2, 0), (37, .invokevirtual 57, 3, 151, 0, 0), (40, .ireturn, 1, 0, 0, 0), (41, .aload_n 0, 1, 0, 0, 0), (42, .invokevirtual 332, 3, 197, 0, 0), (45, .aload_n 0, 1, 0, 0, 0), (46, .aload_n 0, 1, 0, 0, 0), (47, .iload_n 1, 1, 0, 0, 0), (48, .iload_n 2, 1, 0, 0, 0), (49, .invokevirtual 306, 3, 194, 0, 0), (52, .invokevirtual 61, 3, 154, 0, 0), (55, .ireturn, 1, 0, 0, 0)]
/-- LastAskedModel.hasThen(II)I -/
def xc_212 : List xCe := [(0, .aload_n 0, 1, 0, 0, 0), (1, .iconst 0, 1, 0, 0, 0), (2, .putfield 51, 3, 900, 0, 0), (5, .aload_n 0, 1, 0, 0, 0), (6, .iload_n 1, 1, 0, 0, 0), (7, .invokevirtual 329, 3, 203, 0, 0), (10, .istore_n 3, 1, 0, 0, 0), (11, .iload_n 3, 1, 0, 0, 0), (12, .ifCond .le 9, 3, 21, 0, 0), (15, .aload_n 0, 1, 0, 0, 0), (16, .iload_n 3, 1, 0, 0, 0), (17, .invokevirtual 57, 3, 151, 0, 0), (20, .ireturn, 1, 0, 0, 0), (21, .aload_n 0, 1, 0, 0, 0), (22, .iload_n 2, 1, 0, 0, 0), (23, .invokevirtual 338, 3, 210, 0, 0), (26, .ifCond .ne 9, 3, 35, 0, 0), (29, .aload_n 0, 1, 0, 0, 0), (30, .iconst 2, 1, 0, 2, 0), (31, .invokevirtual 57, 3, 151, 0, 0), (34, .ireturn, 1, 0, 0, 0), (35, .aload_n 0, 1, 0, 0, 0), (36, .invokevirtual 332, 3, 197, 0, 0), (39, .aload_n 0, 1, 0, 0, 0), (40, .iload_n 2, 1, 0, 0, 0), (41, .invokevirtual 312, 3, 195, 0, 0), (44, .aload_n 0, 1, 0, 0, 0), (45, .aload_n 0, 1, 0, 0, 0), (46, .getfield 33, 3, 923, 0, 0), (49, .iload_n 1, 1, 0, 0, 0), (50, .iaload, 1, 0, 0, 0), (51, .invokevirtual 61, 3, 154, 0, 0), (54, .ireturn, 1, 0, 0, 0)]
/-- LastAskedModel.catThen(I)I -/
def xc_213 : List xCe := [(0, .aload_n 0, 1, 0, 0, 0), (1, .iconst 0, 1, 0, 0, 0), (2, .putfield 51, 3, 900, 0, 0), (5, .aload_n 0, 1, 0, 0, 0), (6, .getfield 280, 3, 903, 0, 0), (9, .ifnonnull 9, 3, 18, 0, 0), (12, .aload_n 0, 1, 0, 0, 0), (13, .iconst 1, 1, 0, 1, 0), (14, .invokevirtual 57, 3, 151, 0, 0), (17, .ireturn, 1, 0, 0, 0), (18, .aload_n 0, 1, 0, 0, 0), (19, .iload_n 1, 1, 0, 0, 0), (20, .invokevirtual 338, 3, 210, 0, 0), (23, .ifCond .ne 9, 3, 32, 0, 0), (26, .aload_n 0, 1, 0, 0, 0), (27, .iconst 2, 1, 0, 2, 0), (28, .invokevirtual 57, 3, 151, 0, 0), (31, .ireturn, 1, 0, 0, 0), (32, .aload_n 0, 1, 0, 0, 0), (33, .invokevirtual 332, 3, 197, 0, 0), (36, .aload_n 0, 1, 0, 0, 0), (37, .iload_n 1, 1, 0, 0, 0), (38, .invokevirtual 312, 3, 195, 0, 0), (41, .aload_n 0, 1, 0, 0, 0), (42, .aload_n 0, 1, 0, 0, 0), (43, .getfield 303, 3, 924, 0, 0), (46, .invokevirtual 61, 3, 154, 0, 0), (49, .ireturn, 1, 0, 0, 0)]
/-- LastAskedModel.rounds()I -/
def xc_214 : List xCe := [(0, .aload_n 0, 1, 0, 0, 0), (1, .iconst 0, 1, 0, 0, 0), (2, .putfield 51, 3, 900, 0, 0), (5, .aload_n 0, 1, 0, 0, 0), (6, .getfield 280, 3, 903, 0, 0), (9, .ifnonnull 9, 3, 18, 0, 0), (12, .aload_n 0, 1, 0, 0, 0), (13, .iconst 1, 1, 0, 1, 0), (14, .invokevirtual 57, 3, 151, 0, 0), (17, .ireturn, 1, 0, 0, 0), (18, .aload_n 0, 1, 0, 0, 0), (19, .invokevirtual 332, 3, 197, 0, 0), (22, .iconst 0, 1, 0, 0, 0), (23, .istore_n 1, 1, 0, 0, 0), (24, .iconst 0, 1, 0, 0, 0), (25, .istore_n 2, 1, 0, 0, 0), (26, .iload_n 2, 1, 0, 0, 0), (27, .aload_n 0, 1, 0, 0, 0), (28, .getfield 280, 3, 903, 0, 0), (31, .getfield 170, 3, 802, 0, 0), (34, .if_icmp .ge 76, 3, 110, 0, 0), (37, .aload_n 0, 1, 0, 0, 0), (38, .iload_n 2, 1, 0, 0, 0), (39, .invokevirtual 294, 3, 190, 0, 0), (42, .ifCond .ne 6, 3, 48, 0, 0), (45, .goto 59, 3, 104, 0, 0), (48, .aload_n 0, 1, 0, 0, 0), (49, .getfield 30, 3, 922, 0, 0), (52, .iload_n 2, 1, 0, 0, 0), (53, .iaload, 1, 0, 0, 0), (54, .istore_n 3, 1, 0, 0, 0), (55, .iconst 0, 1, 0, 0, 0), (56, .istore 4, 2, 0, 0, 0), (58, .iload 4, 2, 0, 0, 0), (60, .bipush 6, 2, 0, 6, 0), (62, .if_icmp .ge 27, 3, 89, 0, 0), (65, .iload_n 3, 1, 0, 0, 0), (66, .bipush (-2), 2, 0, (-2), 0), (68, .if_icmp .eq 21, 3, 89, 0, 0), (71, .iload_n 3, 1, 0, 0, 0), (72, .iload_n 2, 1, 0, 0, 0), (73, .if_icmp .eq 16, 3, 89, 0, 0), (76, .aload_n 0, 1, 0, 0, 0), (77, .getfield 30, 3, 922, 0, 0), (80, .iload_n 3, 1, 0, 0, 0), (81, .iaload, 1, 0, 0, 0), (82, .istore_n 3, 1, 0, 0, 0), (83, .iinc 4 1, 3, 0, 1, 0), (86, .goto (-28), 3, 58, 0, 0), (89, .iload_n 1, 1, 0, 0, 0), (90, .iload_n 3, 1, 0, 0, 0), (91, .iload_n 2, 1, 0, 0, 0), (92, .if_icmp .ne 9, 3, 101, 0, 0), (95, .iconst 1, 1, 0, 1, 0), (96, .iload_n 2, 1, 0, 0, 0), (97, .ishl, 1, 0, 0, 0), (98, .goto 4, 3, 102, 0, 0), (101, .iconst 0, 1, 0, 0, 0), (102, .ior, 1, 0, 0, 0), (103, .istore_n 1, 1, 0, 0, 0), (104, .iinc 2 1, 3, 0, 1, 0), (107, .goto (-81), 3, 26, 0, 0), (110, .aload_n 0, 1, 0, 0, 0), (111, .iload_n 1, 1, 0, 0, 0), (112, .invokevirtual 61, 3, 154, 0, 0), (115, .ireturn, 1, 0, 0, 0)]
/-- LastAskedModel.worthiest()I -/
def xc_215 : List xCe := [(0, .aload_n 0, 1, 0, 0, 0), (1, .iconst 0, 1, 0, 0, 0), (2, .putfield 51, 3, 900, 0, 0), (5, .aload_n 0, 1, 0, 0, 0), (6, .getfield 280, 3, 903, 0, 0), (9, .ifnonnull 9, 3, 18, 0, 0), (12, .aload_n 0, 1, 0, 0, 0), (13, .iconst 1, 1, 0, 1, 0), (14, .invokevirtual 57, 3, 151, 0, 0), (17, .ireturn, 1, 0, 0, 0), (18, .aload_n 0, 1, 0, 0, 0), (19, .invokevirtual 332, 3, 197, 0, 0), (22, .bipush (-2), 2, 0, (-2), 0), (24, .istore_n 1, 1, 0, 0, 0), (25, .iconst 0, 1, 0, 0, 0), (26, .istore_n 2, 1, 0, 0, 0), (27, .iconst 0, 1, 0, 0, 0), (28, .istore_n 3, 1, 0, 0, 0), (29, .iload_n 3, 1, 0, 0, 0), (30, .aload_n 0, 1, 0, 0, 0), (31, .getfield 280, 3, 903, 0, 0), (34, .getfield 170, 3, 802, 0, 0), (37, .if_icmp .ge 50, 3, 87, 0, 0), (40, .aload_n 0, 1, 0, 0, 0), (41, .iload_n 3, 1, 0, 0, 0), (42, .invokevirtual 294, 3, 190, 0, 0), (45, .ifCond .eq 36, 3, 81, 0, 0), (48, .aload_n 0, 1, 0, 0, 0), (49, .getfield 30, 3, 922, 0, 0), (52, .iload_n 3, 1, 0, 0, 0), (53, .iaload, 1, 0, 0, 0), (54, .bipush (-2), 2, 0, (-2), 0), (56, .if_icmp .eq 25, 3, 81, 0, 0), (59, .aload_n 0, 1, 0, 0, 0), (60, .getfield 21, 3, 917, 0, 0), (63, .iload_n 3, 1, 0, 0, 0), (64, .iaload, 1, 0, 0, 0), (65, .iload_n 2, 1, 0, 0, 0), (66, .if_icmp .gt 6, 3, 72, 0, 0), (69, .goto 12, 3, 81, 0, 0), (72, .aload_n 0, 1, 0, 0, 0), (73, .getfield 21, 3, 917, 0, 0), (76, .iload_n 3, 1, 0, 0, 0), (77, .iaload, 1, 0, 0, 0), (78, .istore_n 2, 1, 0, 0, 0), (79, .iload_n 3, 1, 0, 0, 0), (80, .istore_n 1, 1, 0, 0, 0), (81, .iinc 3 1, 3, 0, 1, 0), (84, .goto (-55), 3, 29, 0, 0), (87, .aload_n 0, 1, 0, 0, 0), (88, .iload_n 1, 1, 0, 0, 0), (89, .invokevirtual 61, 3, 154, 0, 0), (92, .ireturn, 1, 0, 0, 0)]
/-- LastAskedModel.plot(II)I -/
def xc_216 : List xCe := [(0, .aload_n 0, 1, 0, 0, 0), (1, .iconst 0, 1, 0, 0, 0), (2, .putfield 51, 3, 900, 0, 0), (5, .aload_n 0, 1, 0, 0, 0), (6, .iload_n 1, 1, 0, 0, 0), (7, .iload_n 2, 1, 0, 0, 0), (8, .invokevirtual 326, 3, 187, 0, 0), (11, .ifCond .eq 31, 3, 42, 0, 0), (14, .aload_n 0, 1, 0, 0, 0), (15, .getfield 17, 3, 916, 0, 0), (18, .bipush 42, 2, 0, 42, 0), (20, .iaload, 1, 0, 0, 0), (21, .iload_n 1, 1, 0, 0, 0), (22, .invokestatic 235, 3, 157, 0, 0), (25, .ifCond .eq 17, 3, 42, 0, 0), (28, .aload_n 0, 1, 0, 0, 0), (29, .getfield 17, 3, 916, 0, 0), (32, .bipush 42, 2, 0, 42, 0), (34, .iaload, 1, 0, 0, 0), (35, .iload_n 2, 1, 0, 0, 0), (36, .invokestatic 235, 3, 157, 0, 0), (39, .ifCond .ne 9, 3, 48, 0, 0), (42, .aload_n 0, 1, 0, 0, 0), (43, .iconst 1, 1, 0, 1, 0), (44, .invokevirtual 57, 3, 151, 0, 0), (47, .ireturn, 1, 0, 0, 0), (48, .aload_n 0, 1, 0, 0, 0), (49, .invokevirtual 332, 3, 197, 0, 0), (52, .bipush (-2), 2, 0, (-2), 0), (54, .istore_n 3, 1, 0, 0, 0), (55, .iconst 0, 1, 0, 0, 0), (56, .istore 4, 2, 0, 0, 0), (58, .iload 4, 2, 0, 0, 0), (60, .aload_n 0, 1, 0, 0, 0), (61, .getfield 17, 3, 916, 0, 0), (64, .bipush 42, 2, 0, 42, 0), (66, .iaload, 1, 0, 0, 0), (67, .if_icmp .gt 77, 3, 144, 0, 0), (70, .iload 4, 2, 0, 0, 0), (72, .aload_n 0, 1, 0, 0, 0), (73, .getfield 17, 3, 916, 0, 0), (76, .bipush 42, 2, 0, 42, 0), (78, .iaload, 1, 0, 0, 0), (79, .iconst (-1), 1, 0, (-1), 0), (80, .ixor, 1, 0, 0, 0), (81, .iand, 1, 0, 0, 0), (82, .ifCond .ne 56, 3, 138, 0, 0), (85, .iload 4, 2, 0, 0, 0), (87, .iload_n 1, 1, 0, 0, 0), (88, .invokestatic 235, 3, 157, 0, 0), (91, .ifCond .eq 47, 3, 138, 0, 0), (94, .iload 4, 2, 0, 0, 0), (96, .iload_n 2, 1, 0, 0, 0), (97, .invokestatic 235, 3, 157, 0, 0), (100, .ifCond .ne 38, 3, 138, 0, 0), (103, .iload_n 3, 1, 0, 0, 0), (104, .bipush (-2), 2, 0, (-2), 0), (106, .if_icmp .eq 18, 3, 124, 0, 0), (109, .iload 4, 2, 0, 0, 0), (111, .invokestatic 341, 3, 158, 0, 0), (114, .iload_n 3, 1, 0, 0, 0), (115, .invokestatic 341, 3, 158, 0, 0), (118, .if_icmp .lt 6, 3, 124, 0, 0), (121, .goto 17, 3, 138, 0, 0), (124, .aload_n 0, 1, 0, 0, 0), (125, .iload_n 1, 1, 0, 0, 0), (126, .iload 4, 2, 0, 0, 0), (128, .invokevirtual 306, 3, 194, 0, 0), (131, .iload_n 2, 1, 0, 0, 0), (132, .if_icmp .ne 6, 3, 138, 0, 0), (135, .iload 4, 2, 0, 0, 0), (137, .istore_n 3, 1, 0, 0, 0), (138, .iinc 4 1, 3, 0, 1, 0), (141, .goto (-83), 3, 58, 0, 0), (144, .aload_n 0, 1, 0, 0, 0), (145, .iload_n 3, 1, 0, 0, 0), (146, .invokevirtual 61, 3, 154, 0, 0), (149, .ireturn, 1, 0, 0, 0)]
/-- LastAskedModel.partOf(I)J -/
def xc_217 : List xCe := [(0, .lconst 1, 1, 0, 0, 1), (1, .lstore_n 2, 1, 0, 0, 0), (2, .iconst 0, 1, 0, 0, 0), (3, .istore 4, 2, 0, 0, 0), (5, .iload 4, 2, 0, 0, 0), (7, .aload_n 0, 1, 0, 0, 0), (8, .getfield 280, 3, 903, 0, 0), (11, .getfield 170, 3, 802, 0, 0), (14, .if_icmp .ge 58, 3, 72, 0, 0), (17, .aload_n 0, 1, 0, 0, 0), (18, .iload 4, 2, 0, 0, 0), (20, .invokevirtual 294, 3, 190, 0, 0), (23, .ifCond .eq 43, 3, 66, 0, 0), (26, .lload_n 2, 1, 0, 0, 0), (27, .iload_n 1, 1, 0, 0, 0), (28, .iload 4, 2, 0, 0, 0), (30, .invokestatic 235, 3, 157, 0, 0), (33, .ifCond .eq 17, 3, 50, 0, 0), (36, .aload_n 0, 1, 0, 0, 0), (37, .getfield 280, 3, 903, 0, 0), (40, .getfield 225, 3, 809, 0, 0), (43, .iload 4, 2, 0, 0, 0), (45, .iaload, 1, 0, 0, 0), (46, .i2l, 1, 0, 0, 0), (47, .goto 17, 3, 64, 0, 0), (50, .bipush 100, 2, 0, 100, 0), (52, .aload_n 0, 1, 0, 0, 0), (53, .getfield 280, 3, 903, 0, 0), (56, .getfield 225, 3, 809, 0, 0), (59, .iload 4, 2, 0, 0, 0), (61, .iaload, 1, 0, 0, 0), (62, .isub, 1, 0, 0, 0), (63, .i2l, 1, 0, 0, 0), (64, .lmul, 1, 0, 0, 0), (65, .lstore_n 2, 1, 0, 0, 0), (66, .iinc 4 1, 3, 0, 1, 0), (69, .goto (-64), 3, 5, 0, 0), (72, .lload_n 2, 1, 0, 0, 0), (73, .lreturn, 1, 0, 0, 0)]
/-- LastAskedModel.wholeOf()V -/
def xc_218 : List xCe := [(0, .aload_n 0, 1, 0, 0, 0), (1, .lconst 1, 1, 0, 0, 1), (2, .putfield 344, 3, 925, 0, 0), (5, .iconst 0, 1, 0, 0, 0), (6, .istore_n 1, 1, 0, 0, 0), (7, .iload_n 1, 1, 0, 0, 0), (8, .aload_n 0, 1, 0, 0, 0), (9, .getfield 280, 3, 903, 0, 0), (12, .getfield 170, 3, 802, 0, 0), (15, .if_icmp .ge 33, 3, 48, 0, 0), (18, .aload_n 0, 1, 0, 0, 0), (19, .dup, 1, 0, 0, 0), (20, .getfield 344, 3, 925, 0, 0), (23, .aload_n 0, 1, 0, 0, 0), (24, .iload_n 1, 1, 0, 0, 0), (25, .invokevirtual 294, 3, 190, 0, 0), (28, .ifCond .eq 9, 3, 37, 0, 0), (31, .ldc2_w 347, 3, 0, 0, 100), (34, .goto 4, 3, 38, 0, 0), (37, .lconst 1, 1, 0, 0, 1), (38, .lmul, 1, 0, 0, 0), (39, .putfield 344, 3, 925, 0, 0), (42, .iinc 1 1, 3, 0, 1, 0), (45, .goto (-38), 3, 7, 0, 0), (48, .return_, 1, 0, 0, 0)]
/-- LastAskedModel.meanOf(I)J -/
def xc_219 : List xCe := [(0, .lconst 0, 1, 0, 0, 0), (1, .lstore_n 2, 1, 0, 0, 0), (2, .aload_n 0, 1, 0, 0, 0), (3, .invokevirtual 309, 3, 193, 0, 0), (6, .aload_n 0, 1, 0, 0, 0), (7, .invokevirtual 349, 3, 218, 0, 0), (10, .iconst 0, 1, 0, 0, 0), (11, .istore 4, 2, 0, 0, 0), (13, .iload 4, 2, 0, 0, 0), (15, .aload_n 0, 1, 0, 0, 0), (16, .getfield 21, 3, 917, 0, 0), (19, .bipush 42, 2, 0, 42, 0), (21, .iaload, 1, 0, 0, 0), (22, .if_icmp .gt 64, 3, 86, 0, 0), (25, .iload 4, 2, 0, 0, 0), (27, .aload_n 0, 1, 0, 0, 0), (28, .getfield 21, 3, 917, 0, 0), (31, .bipush 42, 2, 0, 42, 0), (33, .iaload, 1, 0, 0, 0), (34, .iconst (-1), 1, 0, (-1), 0), (35, .ixor, 1, 0, 0, 0), (36, .iand, 1, 0, 0, 0), (37, .ifCond .eq 6, 3, 43, 0, 0), (40, .goto 40, 3, 80, 0, 0), (43, .aload_n 0, 1, 0, 0, 0), (44, .iload 4, 2, 0, 0, 0), (46, .invokevirtual 352, 3, 217, 0, 0), (49, .lstore 5, 2, 0, 0, 0), (51, .lload 5, 2, 0, 0, 0), (53, .lconst 0, 1, 0, 0, 0), (54, .lcmp, 1, 0, 0, 0), (55, .ifCond .ne 6, 3, 61, 0, 0), (58, .goto 22, 3, 80, 0, 0), (61, .aload_n 0, 1, 0, 0, 0), (62, .iload 4, 2, 0, 0, 0), (64, .invokevirtual 312, 3, 195, 0, 0), (67, .lload_n 2, 1, 0, 0, 0), (68, .lload 5, 2, 0, 0, 0), (70, .aload_n 0, 1, 0, 0, 0), (71, .getfield 33, 3, 923, 0, 0), (74, .iload_n 1, 1, 0, 0, 0), (75, .iaload, 1, 0, 0, 0), (76, .i2l, 1, 0, 0, 0), (77, .lmul, 1, 0, 0, 0), (78, .ladd, 1, 0, 0, 0), (79, .lstore_n 2, 1, 0, 0, 0), (80, .iinc 4 1, 3, 0, 1, 0), (83, .goto (-70), 3, 13, 0, 0), (86, .lload_n 2, 1, 0, 0, 0), (87, .lreturn, 1, 0, 0, 0)]
/-- LastAskedModel.mean(IZ)J -/
def xc_220 : List xCe := [(0, .aload_n 0, 1, 0, 0, 0), (1, .iconst 0, 1, 0, 0, 0), (2, .putfield 51, 3, 900, 0, 0), (5, .aload_n 0, 1, 0, 0, 0), (6, .iload_n 1, 1, 0, 0, 0), (7, .invokevirtual 291, 3, 186, 0, 0), (10, .ifCond .ne 10, 3, 20, 0, 0), (13, .aload_n 0, 1, 0, 0, 0), (14, .iconst 1, 1, 0, 1, 0), (15, .invokevirtual 57, 3, 151, 0, 0), (18, .i2l, 1, 0, 0, 0), (19, .lreturn, 1, 0, 0, 0), (20, .aload_n 0, 1, 0, 0, 0), (21, .invokevirtual 315, 3, 188, 0, 0), (24, .aload_n 0, 1, 0, 0, 0), (25, .iload_n 1, 1, 0, 0, 0), (26, .invokevirtual 294, 3, 190, 0, 0), (29, .ifCond .eq 11, 3, 40, 0, 0), (32, .aload_n 0, 1, 0, 0, 0), (33, .iload_n 1, 1, 0, 0, 0), (34, .invokevirtual 356, 3, 219, 0, 0), (37, .goto 4, 3, 41, 0, 0), (40, .lconst 0, 1, 0, 0, 0), (41, .lstore_n 3, 1, 0, 0, 0), (42, .aload_n 0, 1, 0, 0, 0), (43, .iload_n 1, 1, 0, 0, 0), (44, .invokevirtual 294, 3, 190, 0, 0), (47, .ifCond .ne 8, 3, 55, 0, 0), (50, .aload_n 0, 1, 0, 0, 0), (51, .lconst 1, 1, 0, 0, 1), (52, .putfield 344, 3, 925, 0, 0), (55, .aload_n 0, 1, 0, 0, 0), (56, .lload_n 3, 1, 0, 0, 0), (57, .aload_n 0, 1, 0, 0, 0), (58, .getfield 344, 3, 925, 0, 0), (61, .iload_n 2, 1, 0, 0, 0), (62, .invokevirtual 359, 3, 160, 0, 0), (65, .lreturn, 1, 0, 0, 0)]
/-- LastAskedModel.odds(IIZ)J -/
def xc_221 : List xCe := [(0, .aload_n 0, 1, 0, 0, 0), (1, .iconst 0, 1, 0, 0, 0), (2, .putfield 51, 3, 900, 0, 0), (5, .aload_n 0, 1, 0, 0, 0), (6, .iload_n 1, 1, 0, 0, 0), (7, .invokevirtual 291, 3, 186, 0, 0), (10, .ifCond .ne 10, 3, 20, 0, 0), (13, .aload_n 0, 1, 0, 0, 0), (14, .iconst 1, 1, 0, 1, 0), (15, .invokevirtual 57, 3, 151, 0, 0), (18, .i2l, 1, 0, 0, 0), (19, .lreturn, 1, 0, 0, 0), (20, .iload_n 2, 1, 0, 0, 0), (21, .iconst 0, 1, 0, 0, 0), (22, .sipush 594, 3, 0, 594, 0), (25, .invokestatic 130, 3, 156, 0, 0), (28, .ifCond .ne 10, 3, 38, 0, 0), (31, .aload_n 0, 1, 0, 0, 0), (32, .iconst 2, 1, 0, 2, 0), (33, .invokevirtual 57, 3, 151, 0, 0), (36, .i2l, 1, 0, 0, 0), (37, .lreturn, 1, 0, 0, 0), (38, .aload_n 0, 1, 0, 0, 0), (39, .invokevirtual 332, 3, 197, 0, 0), (42, .aload_n 0, 1, 0, 0, 0), (43, .invokevirtual 349, 3, 218, 0, 0), (46, .lconst 0, 1, 0, 0, 0), (47, .lstore 4, 2, 0, 0, 0), (49, .iconst 0, 1, 0, 0, 0), (50, .istore 6, 2, 0, 0, 0), (52, .iload 6, 2, 0, 0, 0), (54, .aload_n 0, 1, 0, 0, 0), (55, .getfield 21, 3, 917, 0, 0), (58, .bipush 42, 2, 0, 42, 0), (60, .iaload, 1, 0, 0, 0), (61, .if_icmp .gt 58, 3, 119, 0, 0), (64, .iload 6, 2, 0, 0, 0), (66, .aload_n 0, 1, 0, 0, 0), (67, .getfield 21, 3, 917, 0, 0), (70, .bipush 42, 2, 0, 42, 0), (72, .iaload, 1, 0, 0, 0), (73, .iconst (-1), 1, 0, (-1), 0), (74, .ixor, 1, 0, 0, 0), (75, .iand, 1, 0, 0, 0), (76, .ifCond .eq 6, 3, 82, 0, 0), (79, .goto 34, 3, 113, 0, 0), (82, .aload_n 0, 1, 0, 0, 0), (83, .iload 6, 2, 0, 0, 0), (85, .invokevirtual 312, 3, 195, 0, 0), (88, .lload 4, 2, 0, 0, 0), (90, .aload_n 0, 1, 0, 0, 0), (91, .getfield 33, 3, 923, 0, 0), (94, .iload_n 1, 1, 0, 0, 0), (95, .iaload, 1, 0, 0, 0), (96, .iload_n 2, 1, 0, 0, 0), (97, .if_icmp .lt 12, 3, 109, 0, 0), (100, .aload_n 0, 1, 0, 0, 0), (101, .iload 6, 2, 0, 0, 0), (103, .invokevirtual 352, 3, 217, 0, 0), (106, .goto 4, 3, 110, 0, 0), (109, .lconst 0, 1, 0, 0, 0), (110, .ladd, 1, 0, 0, 0), (111, .lstore 4, 2, 0, 0, 0), (113, .iinc 6 1, 3, 0, 1, 0), (116, .goto (-64), 3, 52, 0, 0), (119, .aload_n 0, 1, 0, 0, 0), (120, .lload 4, 2, 0, 0, 0), (122, .aload_n 0, 1, 0, 0, 0), (123, .getfield 344, 3, 925, 0, 0), (126, .iload_n 3, 1, 0, 0, 0), (127, .invokevirtual 359, 3, 160, 0, 0), (130, .lreturn, 1, 0, 0, 0)]
/-- LastAskedModel.passes(IIZ)J -/
def xc_222 : List xCe := [(0, .aload_n 0, 1, 0, 0, 0), (1, .iconst 0, 1, 0, 0, 0), (2, .putfield 51, 3, 900, 0, 0), (5, .aload_n 0, 1, 0, 0, 0), (6, .iload_n 1, 1, 0, 0, 0), (7, .iload_n 2, 1, 0, 0, 0), (8, .invokevirtual 326, 3, 187, 0, 0), (11, .ifCond .ne 10, 3, 21, 0, 0), (14, .aload_n 0, 1, 0, 0, 0), (15, .iconst 1, 1, 0, 1, 0), (16, .invokevirtual 57, 3, 151, 0, 0), (19, .i2l, 1, 0, 0, 0), (20, .lreturn, 1, 0, 0, 0), (21, .aload_n 0, 1, 0, 0, 0), (22, .invokevirtual 332, 3, 197, 0, 0), (25, .aload_n 0, 1, 0, 0, 0), (26, .invokevirtual 349, 3, 218, 0, 0), (29, .lconst 0, 1, 0, 0, 0), (30, .lstore 4, 2, 0, 0, 0), (32, .iconst 0, 1, 0, 0, 0), (33, .istore 6, 2, 0, 0, 0), (35, .iload 6, 2, 0, 0, 0), (37, .aload_n 0, 1, 0, 0, 0), (38, .getfield 21, 3, 917, 0, 0), (41, .bipush 42, 2, 0, 42, 0), (43, .iaload, 1, 0, 0, 0), (44, .if_icmp .gt 55, 3, 99, 0, 0), (47, .iload 6, 2, 0, 0, 0), (49, .aload_n 0, 1, 0, 0, 0), (50, .getfield 21, 3, 917, 0, 0), (53, .bipush 42, 2, 0, 42, 0), (55, .iaload, 1, 0, 0, 0), (56, .iconst (-1), 1, 0, (-1), 0), (57, .ixor, 1, 0, 0, 0), (58, .iand, 1, 0, 0, 0), (59, .ifCond .ne 34, 3, 93, 0, 0), (62, .iload 6, 2, 0, 0, 0), (64, .iload_n 1, 1, 0, 0, 0), (65, .invokestatic 235, 3, 157, 0, 0), (68, .ifCond .eq 25, 3, 93, 0, 0), (71, .aload_n 0, 1, 0, 0, 0), (72, .iload_n 1, 1, 0, 0, 0), (73, .iload 6, 2, 0, 0, 0), (75, .invokevirtual 306, 3, 194, 0, 0), (78, .iload_n 2, 1, 0, 0, 0), (79, .if_icmp .ne 14, 3, 93, 0, 0), (82, .lload 4, 2, 0, 0, 0), (84, .aload_n 0, 1, 0, 0, 0), (85, .iload 6, 2, 0, 0, 0), (87, .invokevirtual 352, 3, 217, 0, 0), (90, .ladd, 1, 0, 0, 0), (91, .lstore 4, 2, 0, 0, 0), (93, .iinc 6 1, 3, 0, 1, 0), (96, .goto (-61), 3, 35, 0, 0), (99, .aload_n 0, 1, 0, 0, 0), (100, .lload 4, 2, 0, 0, 0), (102, .aload_n 0, 1, 0, 0, 0), (103, .getfield 344, 3, 925, 0, 0), (106, .iload_n 3, 1, 0, 0, 0), (107, .invokevirtual 359, 3, 160, 0, 0), (110, .lreturn, 1, 0, 0, 0)]
/-- LastAskedModel.catMean(Z)J -/
def xc_223 : List xCe := [(0, .aload_n 0, 1, 0, 0, 0), (1, .iconst 0, 1, 0, 0, 0), (2, .putfield 51, 3, 900, 0, 0), (5, .aload_n 0, 1, 0, 0, 0), (6, .getfield 280, 3, 903, 0, 0), (9, .ifnonnull 10, 3, 19, 0, 0), (12, .aload_n 0, 1, 0, 0, 0), (13, .iconst 1, 1, 0, 1, 0), (14, .invokevirtual 57, 3, 151, 0, 0), (17, .i2l, 1, 0, 0, 0), (18, .lreturn, 1, 0, 0, 0), (19, .aload_n 0, 1, 0, 0, 0), (20, .invokevirtual 332, 3, 197, 0, 0), (23, .aload_n 0, 1, 0, 0, 0), (24, .invokevirtual 349, 3, 218, 0, 0), (27, .lconst 0, 1, 0, 0, 0), (28, .lstore_n 2, 1, 0, 0, 0), (29, .iconst 0, 1, 0, 0, 0), (30, .istore 4, 2, 0, 0, 0), (32, .iload 4, 2, 0, 0, 0), (34, .aload_n 0, 1, 0, 0, 0), (35, .getfield 21, 3, 917, 0, 0), (38, .bipush 42, 2, 0, 42, 0), (40, .iaload, 1, 0, 0, 0), (41, .if_icmp .gt 48, 3, 89, 0, 0), (44, .iload 4, 2, 0, 0, 0), (46, .aload_n 0, 1, 0, 0, 0), (47, .getfield 21, 3, 917, 0, 0), (50, .bipush 42, 2, 0, 42, 0), (52, .iaload, 1, 0, 0, 0), (53, .iconst (-1), 1, 0, (-1), 0), (54, .ixor, 1, 0, 0, 0), (55, .iand, 1, 0, 0, 0), (56, .ifCond .eq 6, 3, 62, 0, 0), (59, .goto 24, 3, 83, 0, 0), (62, .aload_n 0, 1, 0, 0, 0), (63, .iload 4, 2, 0, 0, 0), (65, .invokevirtual 312, 3, 195, 0, 0), (68, .lload_n 2, 1, 0, 0, 0), (69, .aload_n 0, 1, 0, 0, 0), (70, .iload 4, 2, 0, 0, 0), (72, .invokevirtual 352, 3, 217, 0, 0), (75, .aload_n 0, 1, 0, 0, 0), (76, .getfield 303, 3, 924, 0, 0), (79, .i2l, 1, 0, 0, 0), (80, .lmul, 1, 0, 0, 0), (81, .ladd, 1, 0, 0, 0), (82, .lstore_n 2, 1, 0, 0, 0), (83, .iinc 4 1, 3, 0, 1, 0), (86, .goto (-54), 3, 32, 0, 0), (89, .aload_n 0, 1, 0, 0, 0), (90, .lload_n 2, 1, 0, 0, 0), (91, .aload_n 0, 1, 0, 0, 0), (92, .getfield 344, 3, 925, 0, 0), (95, .iload_n 1, 1, 0, 0, 0), (96, .invokevirtual 359, 3, 160, 0, 0), (99, .lreturn, 1, 0, 0, 0)]
/-- LastAskedModel.asks(II)V -/
def xc_224 : List xCe := [(0, .aload_n 0, 1, 0, 0, 0), (1, .getfield 21, 3, 917, 0, 0), (4, .bipush 44, 2, 0, 44, 0), (6, .dup2, 1, 0, 0, 0), (7, .iaload, 1, 0, 0, 0), (8, .iconst 1, 1, 0, 1, 0), (9, .iadd, 1, 0, 0, 0), (10, .iastore, 1, 0, 0, 0), (11, .aload_n 0, 1, 0, 0, 0), (12, .getfield 21, 3, 917, 0, 0), (15, .bipush 6, 2, 0, 6, 0), (17, .bipush 6, 2, 0, 6, 0), (19, .iload_n 1, 1, 0, 0, 0), (20, .imul, 1, 0, 0, 0), (21, .iadd, 1, 0, 0, 0), (22, .iload_n 2, 1, 0, 0, 0), (23, .iadd, 1, 0, 0, 0), (24, .aload_n 0, 1, 0, 0, 0), (25, .getfield 21, 3, 917, 0, 0), (28, .bipush 44, 2, 0, 44, 0), (30, .iaload, 1, 0, 0, 0), (31, .iastore, 1, 0, 0, 0), (32, .aload_n 0, 1, 0, 0, 0), (33, .getfield 21, 3, 917, 0, 0), (36, .iload_n 2, 1, 0, 0, 0), (37, .iaload, 1, 0, 0, 0), (38, .aload_n 0, 1, 0, 0, 0), (39, .getfield 280, 3, 903, 0, 0), (42, .getfield 198, 3, 801, 0, 0), (45, .if_icmp .ge 12, 3, 57, 0, 0), (48, .aload_n 0, 1, 0, 0, 0), (49, .getfield 21, 3, 917, 0, 0), (52, .iload_n 2, 1, 0, 0, 0), (53, .iaload, 1, 0, 0, 0), (54, .goto 10, 3, 64, 0, 0), (57, .aload_n 0, 1, 0, 0, 0), (58, .getfield 280, 3, 903, 0, 0), (61, .getfield 198, 3, 801, 0, 0), (64, .istore_n 3, 1, 0, 0, 0), (65, .aload_n 0, 1, 0, 0, 0), (66, .getfield 21, 3, 917, 0, 0), (69, .iload_n 2, 1, 0, 0, 0), (70, .dup2, 1, 0, 0, 0), (71, .iaload, 1, 0, 0, 0), (72, .iload_n 3, 1, 0, 0, 0), (73, .isub, 1, 0, 0, 0), (74, .iastore, 1, 0, 0, 0), (75, .aload_n 0, 1, 0, 0, 0), (76, .getfield 21, 3, 917, 0, 0), (79, .iload_n 1, 1, 0, 0, 0), (80, .dup2, 1, 0, 0, 0), (81, .iaload, 1, 0, 0, 0), (82, .iload_n 3, 1, 0, 0, 0), (83, .iadd, 1, 0, 0, 0), (84, .iastore, 1, 0, 0, 0), (85, .return_, 1, 0, 0, 0)]
/-- LastAskedModel.bestRow(II)I -/
def xc_225 : List xCe := [(0, .aload_n 0, 1, 0, 0, 0), (1, .getfield 280, 3, 903, 0, 0), (4, .getfield 170, 3, 802, 0, 0), (7, .iconst 1, 1, 0, 1, 0), (8, .iadd, 1, 0, 0, 0), (9, .istore_n 3, 1, 0, 0, 0), (10, .iconst 1, 1, 0, 1, 0), (11, .istore 4, 2, 0, 0, 0), (13, .aload_n 0, 1, 0, 0, 0), (14, .iload_n 1, 1, 0, 0, 0), (15, .invokevirtual 318, 3, 199, 0, 0), (18, .istore 5, 2, 0, 0, 0), (20, .iconst 0, 1, 0, 0, 0), (21, .istore 6, 2, 0, 0, 0), (23, .aload_n 0, 1, 0, 0, 0), (24, .ldc2_w 363, 3, 0, 0, (-1)), (27, .putfield 365, 3, 926, 0, 0), (30, .iconst 0, 1, 0, 0, 0), (31, .istore 7, 2, 0, 0, 0), (33, .iload 7, 2, 0, 0, 0), (35, .iload_n 2, 1, 0, 0, 0), (36, .if_icmp .ge 15, 3, 51, 0, 0), (39, .iload 4, 2, 0, 0, 0), (41, .iload_n 3, 1, 0, 0, 0), (42, .imul, 1, 0, 0, 0), (43, .istore 4, 2, 0, 0, 0), (45, .iinc 7 1, 3, 0, 1, 0), (48, .goto (-15), 3, 33, 0, 0), (51, .iconst 0, 1, 0, 0, 0), (52, .istore 7, 2, 0, 0, 0), (54, .iload 7, 2, 0, 0, 0), (56, .iload 4, 2, 0, 0, 0), (58, .if_icmp .ge 139, 3, 197, 0, 0), (61, .iload 4, 2, 0, 0, 0), (63, .istore 8, 2, 0, 0, 0), (65, .iconst 0, 1, 0, 0, 0), (66, .istore 9, 2, 0, 0, 0), (68, .iconst 1, 1, 0, 1, 0), (69, .istore 10, 2, 0, 0, 0), (71, .aload_n 0, 1, 0, 0, 0), (72, .invokevirtual 315, 3, 188, 0, 0), (75, .iconst 0, 1, 0, 0, 0), (76, .istore 11, 2, 0, 0, 0), (78, .iload 11, 2, 0, 0, 0), (80, .iload_n 2, 1, 0, 0, 0), (81, .if_icmp .ge 72, 3, 153, 0, 0), (84, .iload 10, 2, 0, 0, 0), (86, .ifCond .eq 67, 3, 153, 0, 0), (89, .iload 8, 2, 0, 0, 0), (91, .iload_n 3, 1, 0, 0, 0), (92, .idiv, 1, 0, 0, 0), (93, .istore 8, 2, 0, 0, 0), (95, .iload 7, 2, 0, 0, 0), (97, .iload 8, 2, 0, 0, 0), (99, .idiv, 1, 0, 0, 0), (100, .iload_n 3, 1, 0, 0, 0), (101, .irem, 1, 0, 0, 0), (102, .istore 12, 2, 0, 0, 0), (104, .bipush 10, 2, 0, 10, 0), (106, .iload 9, 2, 0, 0, 0), (108, .imul, 1, 0, 0, 0), (109, .iload 12, 2, 0, 0, 0), (111, .iadd, 1, 0, 0, 0), (112, .istore 9, 2, 0, 0, 0), (114, .iload 12, 2, 0, 0, 0), (116, .ifCond .ne 6, 3, 122, 0, 0), (119, .goto 28, 3, 147, 0, 0), (122, .iload 5, 2, 0, 0, 0), (124, .iload 12, 2, 0, 0, 0), (126, .iconst 1, 1, 0, 1, 0), (127, .isub, 1, 0, 0, 0), (128, .invokestatic 235, 3, 157, 0, 0), (131, .istore 10, 2, 0, 0, 0), (133, .iload 10, 2, 0, 0, 0), (135, .ifCond .eq 12, 3, 147, 0, 0), (138, .aload_n 0, 1, 0, 0, 0), (139, .iload_n 1, 1, 0, 0, 0), (140, .iload 12, 2, 0, 0, 0), (142, .iconst 1, 1, 0, 1, 0), (143, .isub, 1, 0, 0, 0), (144, .invokevirtual 368, 3, 224, 0, 0), (147, .iinc 11 1, 3, 0, 1, 0), (150, .goto (-72), 3, 78, 0, 0), (153, .iload 10, 2, 0, 0, 0), (155, .ifCond .ne 6, 3, 161, 0, 0), (158, .goto 33, 3, 191, 0, 0), (161, .aload_n 0, 1, 0, 0, 0), (162, .iload_n 1, 1, 0, 0, 0), (163, .invokevirtual 356, 3, 219, 0, 0), (166, .lstore 11, 2, 0, 0, 0), (168, .lload 11, 2, 0, 0, 0), (170, .aload_n 0, 1, 0, 0, 0), (171, .getfield 365, 3, 926, 0, 0), (174, .lcmp, 1, 0, 0, 0), (175, .ifCond .gt 6, 3, 181, 0, 0), (178, .goto 13, 3, 191, 0, 0), (181, .aload_n 0, 1, 0, 0, 0), (182, .lload 11, 2, 0, 0, 0), (184, .putfield 365, 3, 926, 0, 0), (187, .iload 9, 2, 0, 0, 0), (189, .istore 6, 2, 0, 0, 0), (191, .iinc 7 1, 3, 0, 1, 0), (194, .goto (-140), 3, 54, 0, 0), (197, .iload 6, 2, 0, 0, 0), (199, .ireturn, 1, 0, 0, 0)]
/-- LastAskedModel.refusesNumber(IIII)I -/
def xc_226 : List xCe := [(0, .aload_n 0, 1, 0, 0, 0), (1, .iload_n 1, 1, 0, 0, 0), (2, .invokevirtual 291, 3, 186, 0, 0), (5, .ifCond .ne 7, 3, 12, 0, 0), (8, .iconst 1, 1, 0, 1, 0), (9, .goto 36, 3, 45, 0, 0), (12, .iload_n 2, 1, 0, 0, 0), (13, .iload_n 3, 1, 0, 0, 0), (14, .iload 4, 2, 0, 0, 0), (16, .invokestatic 130, 3, 156, 0, 0), (19, .ifCond .ne 7, 3, 26, 0, 0), (22, .iconst 2, 1, 0, 2, 0), (23, .goto 22, 3, 45, 0, 0), (26, .aload_n 0, 1, 0, 0, 0), (27, .getfield 17, 3, 916, 0, 0), (30, .bipush 42, 2, 0, 42, 0), (32, .iaload, 1, 0, 0, 0), (33, .iload_n 1, 1, 0, 0, 0), (34, .invokestatic 235, 3, 157, 0, 0), (37, .ifCond .eq 7, 3, 44, 0, 0), (40, .iconst 0, 1, 0, 0, 0), (41, .goto 4, 3, 45, 0, 0), (44, .iconst 5, 1, 0, 5, 0), (45, .ireturn, 1, 0, 0, 0)]
/-- LastAskedModel.best(II)I -/
def xc_227 : List xCe := [(0, .aload_n 0, 1, 0, 0, 0), (1, .iconst 0, 1, 0, 0, 0), (2, .putfield 51, 3, 900, 0, 0), (5, .aload_n 0, 1, 0, 0, 0), (6, .iload_n 1, 1, 0, 0, 0), (7, .iload_n 2, 1, 0, 0, 0), (8, .iconst 1, 1, 0, 1, 0), (9, .iconst 3, 1, 0, 3, 0), (10, .invokevirtual 371, 3, 226, 0, 0), (13, .istore_n 3, 1, 0, 0, 0), (14, .iload_n 3, 1, 0, 0, 0), (15, .ifCond .le 11, 3, 26, 0, 0), (18, .aload_n 0, 1, 0, 0, 0), (19, .iload_n 3, 1, 0, 0, 0), (20, .invokevirtual 57, 3, 151, 0, 0), (23, .goto 13, 3, 36, 0, 0), (26, .aload_n 0, 1, 0, 0, 0), (27, .aload_n 0, 1, 0, 0, 0), (28, .iload_n 1, 1, 0, 0, 0), (29, .iload_n 2, 1, 0, 0, 0), (30, .invokevirtual 375, 3, 225, 0, 0), (33, .invokevirtual 61, 3, 154, 0, 0), (36, .ireturn, 1, 0, 0, 0)]
/-- LastAskedModel.bestMean(IIZ)J -/
def xc_228 : List xCe := [(0, .aload_n 0, 1, 0, 0, 0), (1, .iconst 0, 1, 0, 0, 0), (2, .putfield 51, 3, 900, 0, 0), (5, .aload_n 0, 1, 0, 0, 0), (6, .iload_n 1, 1, 0, 0, 0), (7, .iload_n 2, 1, 0, 0, 0), (8, .iconst 1, 1, 0, 1, 0), (9, .iconst 3, 1, 0, 3, 0), (10, .invokevirtual 371, 3, 226, 0, 0), (13, .istore 4, 2, 0, 0, 0), (15, .iload 4, 2, 0, 0, 0), (17, .ifCond .le 11, 3, 28, 0, 0), (20, .aload_n 0, 1, 0, 0, 0), (21, .iload 4, 2, 0, 0, 0), (23, .invokevirtual 57, 3, 151, 0, 0), (26, .i2l, 1, 0, 0, 0), (27, .lreturn, 1, 0, 0, 0), (28, .aload_n 0, 1, 0, 0, 0), (29, .iload_n 1, 1, 0, 0, 0), (30, .iload_n 2, 1, 0, 0, 0), (31, .invokevirtual 375, 3, 225, 0, 0), (34, .pop, 1, 0, 0, 0), (35, .aload_n 0, 1, 0, 0, 0), (36, .invokevirtual 315, 3, 188, 0, 0), (39, .aload_n 0, 1, 0, 0, 0), (40, .invokevirtual 349, 3, 218, 0, 0), (43, .aload_n 0, 1, 0, 0, 0), (44, .aload_n 0, 1, 0, 0, 0), (45, .getfield 365, 3, 926, 0, 0), (48, .aload_n 0, 1, 0, 0, 0), (49, .getfield 344, 3, 925, 0, 0), (52, .iload_n 3, 1, 0, 0, 0), (53, .invokevirtual 359, 3, 160, 0, 0), (56, .lreturn, 1, 0, 0, 0)]
/-- LastAskedModel.hoursBy(III)I -/
def xc_229 : List xCe := [(0, .iconst 0, 1, 0, 0, 0), (1, .istore 4, 2, 0, 0, 0), (3, .iload 4, 2, 0, 0, 0), (5, .bipush 64, 2, 0, 64, 0), (7, .if_icmp .ge 17, 3, 24, 0, 0), (10, .aload_n 0, 1, 0, 0, 0), (11, .getfield 36, 3, 927, 0, 0), (14, .iload 4, 2, 0, 0, 0), (16, .iconst 0, 1, 0, 0, 0), (17, .iastore, 1, 0, 0, 0), (18, .iinc 4 1, 3, 0, 1, 0), (21, .goto (-18), 3, 3, 0, 0), (24, .aload_n 0, 1, 0, 0, 0), (25, .getfield 36, 3, 927, 0, 0), (28, .iconst 1, 1, 0, 1, 0), (29, .iload_n 1, 1, 0, 0, 0), (30, .ishl, 1, 0, 0, 0), (31, .iconst 1, 1, 0, 1, 0), (32, .iload_n 1, 1, 0, 0, 0), (33, .ishl, 1, 0, 0, 0), (34, .iastore, 1, 0, 0, 0), (35, .iconst 0, 1, 0, 0, 0), (36, .istore 4, 2, 0, 0, 0), (38, .iload 4, 2, 0, 0, 0), (40, .iload_n 3, 1, 0, 0, 0), (41, .if_icmp .gt 161, 3, 202, 0, 0), (44, .iconst 0, 1, 0, 0, 0), (45, .istore 5, 2, 0, 0, 0), (47, .iload 5, 2, 0, 0, 0), (49, .bipush 64, 2, 0, 64, 0), (51, .if_icmp .ge 31, 3, 82, 0, 0), (54, .aload_n 0, 1, 0, 0, 0), (55, .getfield 36, 3, 927, 0, 0), (58, .iload 5, 2, 0, 0, 0), (60, .iaload, 1, 0, 0, 0), (61, .ifCond .eq 15, 3, 76, 0, 0), (64, .iload_n 2, 1, 0, 0, 0), (65, .iload 5, 2, 0, 0, 0), (67, .iconst (-1), 1, 0, (-1), 0), (68, .ixor, 1, 0, 0, 0), (69, .iand, 1, 0, 0, 0), (70, .ifCond .ne 6, 3, 76, 0, 0), (73, .iload 4, 2, 0, 0, 0), (75, .ireturn, 1, 0, 0, 0), (76, .iinc 5 1, 3, 0, 1, 0), (79, .goto (-32), 3, 47, 0, 0), (82, .iconst 0, 1, 0, 0, 0), (83, .istore 5, 2, 0, 0, 0), (85, .iload 5, 2, 0, 0, 0), (87, .bipush 64, 2, 0, 64, 0), (89, .if_icmp .ge 17, 3, 106, 0, 0), (92, .aload_n 0, 1, 0, 0, 0), (93, .getfield 39, 3, 928, 0, 0), (96, .iload 5, 2, 0, 0, 0), (98, .iconst 0, 1, 0, 0, 0), (99, .iastore, 1, 0, 0, 0), (100, .iinc 5 1, 3, 0, 1, 0), (103, .goto (-18), 3, 85, 0, 0), (106, .iconst 0, 1, 0, 0, 0), (107, .istore 5, 2, 0, 0, 0), (109, .iload 5, 2, 0, 0, 0), (111, .bipush 64, 2, 0, 64, 0), (113, .if_icmp .ge 53, 3, 166, 0, 0), (116, .iconst 0, 1, 0, 0, 0), (117, .istore 6, 2, 0, 0, 0), (119, .iload 6, 2, 0, 0, 0), (121, .aload_n 0, 1, 0, 0, 0), (122, .getfield 280, 3, 903, 0, 0), (125, .getfield 170, 3, 802, 0, 0), (128, .if_icmp .ge 32, 3, 160, 0, 0), (131, .aload_n 0, 1, 0, 0, 0), (132, .getfield 36, 3, 927, 0, 0), (135, .iload 5, 2, 0, 0, 0), (137, .iaload, 1, 0, 0, 0), (138, .iload 6, 2, 0, 0, 0), (140, .invokestatic 235, 3, 157, 0, 0), (143, .ifCond .eq 11, 3, 154, 0, 0), (146, .aload_n 0, 1, 0, 0, 0), (147, .iload 5, 2, 0, 0, 0), (149, .iload 6, 2, 0, 0, 0), (151, .invokevirtual 378, 3, 230, 0, 0), (154, .iinc 6 1, 3, 0, 1, 0), (157, .goto (-38), 3, 119, 0, 0), (160, .iinc 5 1, 3, 0, 1, 0), (163, .goto (-54), 3, 109, 0, 0), (166, .iconst 0, 1, 0, 0, 0), (167, .istore 5, 2, 0, 0, 0), (169, .iload 5, 2, 0, 0, 0), (171, .bipush 64, 2, 0, 64, 0), (173, .if_icmp .ge 23, 3, 196, 0, 0), (176, .aload_n 0, 1, 0, 0, 0), (177, .getfield 36, 3, 927, 0, 0), (180, .iload 5, 2, 0, 0, 0), (182, .aload_n 0, 1, 0, 0, 0), (183, .getfield 39, 3, 928, 0, 0), (186, .iload 5, 2, 0, 0, 0), (188, .iaload, 1, 0, 0, 0), (189, .iastore, 1, 0, 0, 0), (190, .iinc 5 1, 3, 0, 1, 0), (193, .goto (-24), 3, 169, 0, 0), (196, .iinc 4 1, 3, 0, 1, 0), (199, .goto (-161), 3, 38, 0, 0), (202, .sipush 9999, 3, 0, 9999, 0), (205, .ireturn, 1, 0, 0, 0)]
/-- LastAskedModel.spreads(II)V -/
def xc_230 : List xCe := [(0, .iconst 0, 1, 0, 0, 0), (1, .istore_n 3, 1, 0, 0, 0), (2, .iload_n 3, 1, 0, 0, 0), (3, .aload_n 0, 1, 0, 0, 0), (4, .getfield 280, 3, 903, 0, 0), (7, .getfield 170, 3, 802, 0, 0), (10, .if_icmp .ge 37, 3, 47, 0, 0), (13, .aload_n 0, 1, 0, 0, 0), (14, .iload_n 2, 1, 0, 0, 0), (15, .invokevirtual 321, 3, 198, 0, 0), (18, .iload_n 3, 1, 0, 0, 0), (19, .invokestatic 235, 3, 157, 0, 0), (22, .ifCond .eq 19, 3, 41, 0, 0), (25, .aload_n 0, 1, 0, 0, 0), (26, .getfield 39, 3, 928, 0, 0), (29, .iload_n 1, 1, 0, 0, 0), (30, .iconst 1, 1, 0, 1, 0), (31, .iload_n 3, 1, 0, 0, 0), (32, .ishl, 1, 0, 0, 0), (33, .ior, 1, 0, 0, 0), (34, .dup2, 1, 0, 0, 0), (35, .iaload, 1, 0, 0, 0), (36, .iconst 1, 1, 0, 1, 0), (37, .iload_n 3, 1, 0, 0, 0), (38, .ishl, 1, 0, 0, 0), (39, .ior, 1, 0, 0, 0), (40, .iastore, 1, 0, 0, 0), (41, .iinc 3 1, 3, 0, 1, 0), (44, .goto (-42), 3, 2, 0, 0), (47, .return_, 1, 0, 0, 0)]
/-- LastAskedModel.bestTour(II)I -/
def xc_231 : List xCe := [(0, .aload_n 0, 1, 0, 0, 0), (1, .iload_n 1, 1, 0, 0, 0), (2, .invokevirtual 318, 3, 199, 0, 0), (5, .istore_n 3, 1, 0, 0, 0), (6, .iconst 0, 1, 0, 0, 0), (7, .istore 4, 2, 0, 0, 0), (9, .ldc2_w 363, 3, 0, 0, (-1)), (12, .lstore 5, 2, 0, 0, 0), (14, .iconst 0, 1, 0, 0, 0), (15, .istore 7, 2, 0, 0, 0), (17, .iload 7, 2, 0, 0, 0), (19, .iload_n 3, 1, 0, 0, 0), (20, .if_icmp .gt 116, 3, 136, 0, 0), (23, .iload 7, 2, 0, 0, 0), (25, .iload_n 3, 1, 0, 0, 0), (26, .iconst (-1), 1, 0, (-1), 0), (27, .ixor, 1, 0, 0, 0), (28, .iand, 1, 0, 0, 0), (29, .ifCond .eq 6, 3, 35, 0, 0), (32, .goto 98, 3, 130, 0, 0), (35, .aload_n 0, 1, 0, 0, 0), (36, .iload_n 1, 1, 0, 0, 0), (37, .iload 7, 2, 0, 0, 0), (39, .iload_n 2, 1, 0, 0, 0), (40, .invokevirtual 381, 3, 229, 0, 0), (43, .istore 8, 2, 0, 0, 0), (45, .iload 8, 2, 0, 0, 0), (47, .sipush 9999, 3, 0, 9999, 0), (50, .if_icmp .ne 6, 3, 56, 0, 0), (53, .goto 77, 3, 130, 0, 0), (56, .aload_n 0, 1, 0, 0, 0), (57, .invokevirtual 315, 3, 188, 0, 0), (60, .iconst 0, 1, 0, 0, 0), (61, .istore 9, 2, 0, 0, 0), (63, .iload 9, 2, 0, 0, 0), (65, .aload_n 0, 1, 0, 0, 0), (66, .getfield 280, 3, 903, 0, 0), (69, .getfield 170, 3, 802, 0, 0), (72, .if_icmp .ge 26, 3, 98, 0, 0), (75, .iload 7, 2, 0, 0, 0), (77, .iload 9, 2, 0, 0, 0), (79, .invokestatic 235, 3, 157, 0, 0), (82, .ifCond .eq 10, 3, 92, 0, 0), (85, .aload_n 0, 1, 0, 0, 0), (86, .iload_n 1, 1, 0, 0, 0), (87, .iload 9, 2, 0, 0, 0), (89, .invokevirtual 368, 3, 224, 0, 0), (92, .iinc 9 1, 3, 0, 1, 0), (95, .goto (-32), 3, 63, 0, 0), (98, .aload_n 0, 1, 0, 0, 0), (99, .iload_n 1, 1, 0, 0, 0), (100, .invokevirtual 356, 3, 219, 0, 0), (103, .lstore 9, 2, 0, 0, 0), (105, .lload 9, 2, 0, 0, 0), (107, .lload 5, 2, 0, 0, 0), (109, .lcmp, 1, 0, 0, 0), (110, .ifCond .gt 6, 3, 116, 0, 0), (113, .goto 17, 3, 130, 0, 0), (116, .lload 9, 2, 0, 0, 0), (118, .lstore 5, 2, 0, 0, 0), (120, .iload 7, 2, 0, 0, 0), (122, .istore 4, 2, 0, 0, 0), (124, .aload_n 0, 1, 0, 0, 0), (125, .iload 8, 2, 0, 0, 0), (127, .putfield 385, 3, 929, 0, 0), (130, .iinc 7 1, 3, 0, 1, 0), (133, .goto (-116), 3, 17, 0, 0), (136, .iload 4, 2, 0, 0, 0), (138, .ireturn, 1, 0, 0, 0)]
/-- LastAskedModel.tour(II)I -/
def xc_232 : List xCe := [(0, .aload_n 0, 1, 0, 0, 0), (1, .iconst 0, 1, 0, 0, 0), (2, .putfield 51, 3, 900, 0, 0), (5, .aload_n 0, 1, 0, 0, 0), (6, .iload_n 1, 1, 0, 0, 0), (7, .iload_n 2, 1, 0, 0, 0), (8, .iconst 0, 1, 0, 0, 0), (9, .bipush 12, 2, 0, 12, 0), (11, .invokevirtual 371, 3, 226, 0, 0), (14, .istore_n 3, 1, 0, 0, 0), (15, .iload_n 3, 1, 0, 0, 0), (16, .ifCond .le 11, 3, 27, 0, 0), (19, .aload_n 0, 1, 0, 0, 0), (20, .iload_n 3, 1, 0, 0, 0), (21, .invokevirtual 57, 3, 151, 0, 0), (24, .goto 13, 3, 37, 0, 0), (27, .aload_n 0, 1, 0, 0, 0), (28, .aload_n 0, 1, 0, 0, 0), (29, .iload_n 1, 1, 0, 0, 0), (30, .iload_n 2, 1, 0, 0, 0), (31, .invokevirtual 388, 3, 231, 0, 0), (34, .invokevirtual 61, 3, 154, 0, 0), (37, .ireturn, 1, 0, 0, 0)]
/-- LastAskedModel.tourHours(II)I -/
def xc_233 : List xCe := [(0, .aload_n 0, 1, 0, 0, 0), (1, .iconst 0, 1, 0, 0, 0), (2, .putfield 51, 3, 900, 0, 0), (5, .aload_n 0, 1, 0, 0, 0), (6, .iload_n 1, 1, 0, 0, 0), (7, .iload_n 2, 1, 0, 0, 0), (8, .iconst 0, 1, 0, 0, 0), (9, .bipush 12, 2, 0, 12, 0), (11, .invokevirtual 371, 3, 226, 0, 0), (14, .istore_n 3, 1, 0, 0, 0), (15, .iload_n 3, 1, 0, 0, 0), (16, .ifCond .le 9, 3, 25, 0, 0), (19, .aload_n 0, 1, 0, 0, 0), (20, .iload_n 3, 1, 0, 0, 0), (21, .invokevirtual 57, 3, 151, 0, 0), (24, .ireturn, 1, 0, 0, 0), (25, .aload_n 0, 1, 0, 0, 0), (26, .iload_n 1, 1, 0, 0, 0), (27, .iload_n 2, 1, 0, 0, 0), (28, .invokevirtual 388, 3, 231, 0, 0), (31, .pop, 1, 0, 0, 0), (32, .aload_n 0, 1, 0, 0, 0), (33, .aload_n 0, 1, 0, 0, 0), (34, .getfield 385, 3, 929, 0, 0), (37, .invokevirtual 61, 3, 154, 0, 0), (40, .ireturn, 1, 0, 0, 0)]
/-- LastAskedModel.apart(II)I -/
def xc_234 : List xCe := [(0, .aload_n 0, 1, 0, 0, 0), (1, .iconst 0, 1, 0, 0, 0), (2, .putfield 51, 3, 900, 0, 0), (5, .aload_n 0, 1, 0, 0, 0), (6, .iload_n 1, 1, 0, 0, 0), (7, .invokevirtual 291, 3, 186, 0, 0), (10, .ifCond .eq 11, 3, 21, 0, 0), (13, .aload_n 0, 1, 0, 0, 0), (14, .iload_n 2, 1, 0, 0, 0), (15, .invokevirtual 291, 3, 186, 0, 0), (18, .ifCond .ne 9, 3, 27, 0, 0), (21, .aload_n 0, 1, 0, 0, 0), (22, .iconst 1, 1, 0, 1, 0), (23, .invokevirtual 57, 3, 151, 0, 0), (26, .ireturn, 1, 0, 0, 0), (27, .aload_n 0, 1, 0, 0, 0), (28, .iload_n 1, 1, 0, 0, 0), (29, .iconst 1, 1, 0, 1, 0), (30, .iload_n 2, 1, 0, 0, 0), (31, .ishl, 1, 0, 0, 0), (32, .bipush 6, 2, 0, 6, 0), (34, .invokevirtual 381, 3, 229, 0, 0), (37, .istore_n 3, 1, 0, 0, 0), (38, .aload_n 0, 1, 0, 0, 0), (39, .iload_n 3, 1, 0, 0, 0), (40, .sipush 9999, 3, 0, 9999, 0), (43, .if_icmp .ne 8, 3, 51, 0, 0), (46, .bipush (-2), 2, 0, (-2), 0), (48, .goto 4, 3, 52, 0, 0), (51, .iload_n 3, 1, 0, 0, 0), (52, .invokevirtual 61, 3, 154, 0, 0), (55, .ireturn, 1, 0, 0, 0)]
/-- LastAskedModel.toAsk(I)I -/
def xc_235 : List xCe := [(0, .aload_n 0, 1, 0, 0, 0), (1, .iconst 0, 1, 0, 0, 0), (2, .putfield 51, 3, 900, 0, 0), (5, .aload_n 0, 1, 0, 0, 0), (6, .iload_n 1, 1, 0, 0, 0), (7, .invokevirtual 291, 3, 186, 0, 0), (10, .ifCond .ne 9, 3, 19, 0, 0), (13, .aload_n 0, 1, 0, 0, 0), (14, .iconst 1, 1, 0, 1, 0), (15, .invokevirtual 57, 3, 151, 0, 0), (18, .ireturn, 1, 0, 0, 0), (19, .aload_n 0, 1, 0, 0, 0), (20, .invokevirtual 315, 3, 188, 0, 0), (23, .aload_n 0, 1, 0, 0, 0), (24, .iload_n 1, 1, 0, 0, 0), (25, .invokevirtual 318, 3, 199, 0, 0), (28, .istore_n 2, 1, 0, 0, 0), (29, .bipush (-2), 2, 0, (-2), 0), (31, .istore_n 3, 1, 0, 0, 0), (32, .iconst 0, 1, 0, 0, 0), (33, .istore 4, 2, 0, 0, 0), (35, .iload 4, 2, 0, 0, 0), (37, .aload_n 0, 1, 0, 0, 0), (38, .getfield 280, 3, 903, 0, 0), (41, .getfield 170, 3, 802, 0, 0), (44, .if_icmp .ge 53, 3, 97, 0, 0), (47, .iload_n 2, 1, 0, 0, 0), (48, .iload 4, 2, 0, 0, 0), (50, .invokestatic 235, 3, 157, 0, 0), (53, .ifCond .eq 38, 3, 91, 0, 0), (56, .aload_n 0, 1, 0, 0, 0), (57, .iload 4, 2, 0, 0, 0), (59, .invokevirtual 300, 3, 192, 0, 0), (62, .iload_n 1, 1, 0, 0, 0), (63, .if_icmp .eq 28, 3, 91, 0, 0), (66, .iload_n 3, 1, 0, 0, 0), (67, .bipush (-2), 2, 0, (-2), 0), (69, .if_icmp .eq 19, 3, 88, 0, 0), (72, .aload_n 0, 1, 0, 0, 0), (73, .getfield 17, 3, 916, 0, 0), (76, .iload 4, 2, 0, 0, 0), (78, .iaload, 1, 0, 0, 0), (79, .aload_n 0, 1, 0, 0, 0), (80, .getfield 17, 3, 916, 0, 0), (83, .iload_n 3, 1, 0, 0, 0), (84, .iaload, 1, 0, 0, 0), (85, .if_icmp .le 6, 3, 91, 0, 0), (88, .iload 4, 2, 0, 0, 0), (90, .istore_n 3, 1, 0, 0, 0), (91, .iinc 4 1, 3, 0, 1, 0), (94, .goto (-59), 3, 35, 0, 0), (97, .aload_n 0, 1, 0, 0, 0), (98, .iload_n 3, 1, 0, 0, 0), (99, .invokevirtual 61, 3, 154, 0, 0), (102, .ireturn, 1, 0, 0, 0)]
/-- LastAskedModel.rivals(II)I -/
def xc_236 : List xCe := [(0, .aload_n 0, 1, 0, 0, 0), (1, .iconst 0, 1, 0, 0, 0), (2, .putfield 51, 3, 900, 0, 0), (5, .aload_n 0, 1, 0, 0, 0), (6, .iload_n 1, 1, 0, 0, 0), (7, .iload_n 2, 1, 0, 0, 0), (8, .invokevirtual 326, 3, 187, 0, 0), (11, .ifCond .ne 9, 3, 20, 0, 0), (14, .aload_n 0, 1, 0, 0, 0), (15, .iconst 1, 1, 0, 1, 0), (16, .invokevirtual 57, 3, 151, 0, 0), (19, .ireturn, 1, 0, 0, 0), (20, .aload_n 0, 1, 0, 0, 0), (21, .getfield 17, 3, 916, 0, 0), (24, .bipush 42, 2, 0, 42, 0), (26, .iaload, 1, 0, 0, 0), (27, .iload_n 2, 1, 0, 0, 0), (28, .invokestatic 235, 3, 157, 0, 0), (31, .ifCond .ne 9, 3, 40, 0, 0), (34, .aload_n 0, 1, 0, 0, 0), (35, .iconst 5, 1, 0, 5, 0), (36, .invokevirtual 57, 3, 151, 0, 0), (39, .ireturn, 1, 0, 0, 0), (40, .aload_n 0, 1, 0, 0, 0), (41, .invokevirtual 315, 3, 188, 0, 0), (44, .aload_n 0, 1, 0, 0, 0), (45, .iload_n 1, 1, 0, 0, 0), (46, .invokevirtual 294, 3, 190, 0, 0), (49, .ifCond .eq 13, 3, 62, 0, 0), (52, .aload_n 0, 1, 0, 0, 0), (53, .iload_n 1, 1, 0, 0, 0), (54, .iload_n 2, 1, 0, 0, 0), (55, .invokevirtual 297, 3, 191, 0, 0), (58, .iconst (-1), 1, 0, (-1), 0), (59, .if_icmp .ne 10, 3, 69, 0, 0), (62, .aload_n 0, 1, 0, 0, 0), (63, .bipush (-2), 2, 0, (-2), 0), (65, .invokevirtual 61, 3, 154, 0, 0), (68, .ireturn, 1, 0, 0, 0), (69, .iconst 0, 1, 0, 0, 0), (70, .istore_n 3, 1, 0, 0, 0), (71, .iconst 0, 1, 0, 0, 0), (72, .istore 4, 2, 0, 0, 0), (74, .iload 4, 2, 0, 0, 0), (76, .aload_n 0, 1, 0, 0, 0), (77, .getfield 280, 3, 903, 0, 0), (80, .getfield 170, 3, 802, 0, 0), (83, .if_icmp .ge 78, 3, 161, 0, 0), (86, .iload 4, 2, 0, 0, 0), (88, .iload_n 1, 1, 0, 0, 0), (89, .if_icmp .eq 66, 3, 155, 0, 0), (92, .iload 4, 2, 0, 0, 0), (94, .iload_n 2, 1, 0, 0, 0), (95, .if_icmp .eq 60, 3, 155, 0, 0), (98, .aload_n 0, 1, 0, 0, 0), (99, .iload 4, 2, 0, 0, 0), (101, .invokevirtual 294, 3, 190, 0, 0), (104, .ifCond .ne 6, 3, 110, 0, 0), (107, .goto 48, 3, 155, 0, 0), (110, .aload_n 0, 1, 0, 0, 0), (111, .iload 4, 2, 0, 0, 0), (113, .iload_n 2, 1, 0, 0, 0), (114, .invokevirtual 297, 3, 191, 0, 0), (117, .aload_n 0, 1, 0, 0, 0), (118, .iload_n 1, 1, 0, 0, 0), (119, .iload_n 2, 1, 0, 0, 0), (120, .invokevirtual 297, 3, 191, 0, 0), (123, .if_icmp .gt 25, 3, 148, 0, 0), (126, .aload_n 0, 1, 0, 0, 0), (127, .iload 4, 2, 0, 0, 0), (129, .iload_n 2, 1, 0, 0, 0), (130, .invokevirtual 297, 3, 191, 0, 0), (133, .aload_n 0, 1, 0, 0, 0), (134, .iload_n 1, 1, 0, 0, 0), (135, .iload_n 2, 1, 0, 0, 0), (136, .invokevirtual 297, 3, 191, 0, 0), (139, .if_icmp .ne 16, 3, 155, 0, 0), (142, .iload 4, 2, 0, 0, 0), (144, .iload_n 1, 1, 0, 0, 0), (145, .if_icmp .ge 10, 3, 155, 0, 0), (148, .iload_n 3, 1, 0, 0, 0), (149, .iconst 1, 1, 0, 1, 0), (150, .iload 4, 2, 0, 0, 0), (152, .ishl, 1, 0, 0, 0), (153, .ior, 1, 0, 0, 0), (154, .istore_n 3, 1, 0, 0, 0), (155, .iinc 4 1, 3, 0, 1, 0), (158, .goto (-84), 3, 74, 0, 0), (161, .aload_n 0, 1, 0, 0, 0), (162, .iload_n 3, 1, 0, 0, 0), (163, .invokevirtual 61, 3, 154, 0, 0), (166, .ireturn, 1, 0, 0, 0)]
/-- LastAskedModel.low(I)I -/
def xc_237 : List xCe := [(0, .aload_n 0, 1, 0, 0, 0), (1, .getfield 280, 3, 903, 0, 0), (4, .getfield 242, 3, 812, 0, 0), (7, .bipush 6, 2, 0, 6, 0), (9, .aload_n 0, 1, 0, 0, 0), (10, .getfield 280, 3, 903, 0, 0), (13, .getfield 260, 3, 813, 0, 0), (16, .iload_n 1, 1, 0, 0, 0), (17, .iaload, 1, 0, 0, 0), (18, .imul, 1, 0, 0, 0), (19, .aload_n 0, 1, 0, 0, 0), (20, .getfield 280, 3, 903, 0, 0), (23, .getfield 263, 3, 814, 0, 0), (26, .iload_n 1, 1, 0, 0, 0), (27, .iaload, 1, 0, 0, 0), (28, .iadd, 1, 0, 0, 0), (29, .iaload, 1, 0, 0, 0), (30, .istore_n 2, 1, 0, 0, 0), (31, .iload_n 2, 1, 0, 0, 0), (32, .aload_n 0, 1, 0, 0, 0), (33, .getfield 280, 3, 903, 0, 0), (36, .getfield 266, 3, 815, 0, 0), (39, .iload_n 1, 1, 0, 0, 0), (40, .iaload, 1, 0, 0, 0), (41, .if_icmp .le 17, 3, 58, 0, 0), (44, .iload_n 2, 1, 0, 0, 0), (45, .aload_n 0, 1, 0, 0, 0), (46, .getfield 280, 3, 903, 0, 0), (49, .getfield 266, 3, 815, 0, 0), (52, .iload_n 1, 1, 0, 0, 0), (53, .iaload, 1, 0, 0, 0), (54, .isub, 1, 0, 0, 0), (55, .goto 4, 3, 59, 0, 0), (58, .iconst 0, 1, 0, 0, 0), (59, .ireturn, 1, 0, 0, 0)]
/-- LastAskedModel.many(I)I -/
def xc_238 : List xCe := [(0, .aload_n 0, 1, 0, 0, 0), (1, .getfield 280, 3, 903, 0, 0), (4, .getfield 242, 3, 812, 0, 0), (7, .bipush 6, 2, 0, 6, 0), (9, .aload_n 0, 1, 0, 0, 0), (10, .getfield 280, 3, 903, 0, 0), (13, .getfield 260, 3, 813, 0, 0), (16, .iload_n 1, 1, 0, 0, 0), (17, .iaload, 1, 0, 0, 0), (18, .imul, 1, 0, 0, 0), (19, .aload_n 0, 1, 0, 0, 0), (20, .getfield 280, 3, 903, 0, 0), (23, .getfield 263, 3, 814, 0, 0), (26, .iload_n 1, 1, 0, 0, 0), (27, .iaload, 1, 0, 0, 0), (28, .iadd, 1, 0, 0, 0), (29, .iaload, 1, 0, 0, 0), (30, .aload_n 0, 1, 0, 0, 0), (31, .getfield 280, 3, 903, 0, 0), (34, .getfield 266, 3, 815, 0, 0), (37, .iload_n 1, 1, 0, 0, 0), (38, .iaload, 1, 0, 0, 0), (39, .iadd, 1, 0, 0, 0), (40, .aload_n 0, 1, 0, 0, 0), (41, .iload_n 1, 1, 0, 0, 0), (42, .invokevirtual 391, 3, 237, 0, 0), (45, .isub, 1, 0, 0, 0), (46, .iconst 1, 1, 0, 1, 0), (47, .iadd, 1, 0, 0, 0), (48, .ireturn, 1, 0, 0, 0)]
/-- LastAskedModel.wrong()I -/
def xc_239 : List xCe := [(0, .iconst 0, 1, 0, 0, 0), (1, .istore_n 1, 1, 0, 0, 0), (2, .iload_n 1, 1, 0, 0, 0), (3, .aload_n 0, 1, 0, 0, 0), (4, .getfield 280, 3, 903, 0, 0), (7, .getfield 170, 3, 802, 0, 0), (10, .if_icmp .ge 41, 3, 51, 0, 0), (13, .aload_n 0, 1, 0, 0, 0), (14, .getfield 280, 3, 903, 0, 0), (17, .getfield 268, 3, 811, 0, 0), (20, .iload_n 1, 1, 0, 0, 0), (21, .iaload, 1, 0, 0, 0), (22, .iconst (-1), 1, 0, (-1), 0), (23, .if_icmp .eq 22, 3, 45, 0, 0), (26, .aload_n 0, 1, 0, 0, 0), (27, .iload_n 1, 1, 0, 0, 0), (28, .invokevirtual 300, 3, 192, 0, 0), (31, .aload_n 0, 1, 0, 0, 0), (32, .getfield 280, 3, 903, 0, 0), (35, .getfield 268, 3, 811, 0, 0), (38, .iload_n 1, 1, 0, 0, 0), (39, .iaload, 1, 0, 0, 0), (40, .if_icmp .eq 5, 3, 45, 0, 0), (43, .iload_n 1, 1, 0, 0, 0), (44, .ireturn, 1, 0, 0, 0), (45, .iinc 1 1, 3, 0, 1, 0), (48, .goto (-46), 3, 2, 0, 0), (51, .bipush (-2), 2, 0, (-2), 0), (53, .ireturn, 1, 0, 0, 0)]
/-- LastAskedModel.fitting(II)Z -/
def xc_240 : List xCe := [(0, .iconst 0, 1, 0, 0, 0), (1, .istore_n 3, 1, 0, 0, 0), (2, .iconst 1, 1, 0, 1, 0), (3, .istore 4, 2, 0, 0, 0), (5, .aload_n 0, 1, 0, 0, 0), (6, .iconst 0, 1, 0, 0, 0), (7, .putfield 394, 3, 933, 0, 0), (10, .iconst 0, 1, 0, 0, 0), (11, .istore 5, 2, 0, 0, 0), (13, .iload 5, 2, 0, 0, 0), (15, .aload_n 0, 1, 0, 0, 0), (16, .getfield 280, 3, 903, 0, 0), (19, .getfield 255, 3, 805, 0, 0), (22, .if_icmp .ge 20, 3, 42, 0, 0), (25, .iload 4, 2, 0, 0, 0), (27, .aload_n 0, 1, 0, 0, 0), (28, .iload 5, 2, 0, 0, 0), (30, .invokevirtual 397, 3, 238, 0, 0), (33, .imul, 1, 0, 0, 0), (34, .istore 4, 2, 0, 0, 0), (36, .iinc 5 1, 3, 0, 1, 0), (39, .goto (-26), 3, 13, 0, 0), (42, .iconst 0, 1, 0, 0, 0), (43, .istore 5, 2, 0, 0, 0), (45, .iload 5, 2, 0, 0, 0), (47, .bipush 21, 2, 0, 21, 0), (49, .if_icmp .ge 17, 3, 66, 0, 0), (52, .aload_n 0, 1, 0, 0, 0), (53, .getfield 45, 3, 931, 0, 0), (56, .iload 5, 2, 0, 0, 0), (58, .iconst 0, 1, 0, 0, 0), (59, .iastore, 1, 0, 0, 0), (60, .iinc 5 1, 3, 0, 1, 0), (63, .goto (-18), 3, 45, 0, 0), (66, .iconst 0, 1, 0, 0, 0), (67, .istore 5, 2, 0, 0, 0), (69, .iload 5, 2, 0, 0, 0), (71, .bipush 36, 2, 0, 36, 0), (73, .if_icmp .ge 17, 3, 90, 0, 0), (76, .aload_n 0, 1, 0, 0, 0), (77, .getfield 48, 3, 932, 0, 0), (80, .iload 5, 2, 0, 0, 0), (82, .iconst 0, 1, 0, 0, 0), (83, .iastore, 1, 0, 0, 0), (84, .iinc 5 1, 3, 0, 1, 0), (87, .goto (-18), 3, 69, 0, 0), (90, .iconst 0, 1, 0, 0, 0), (91, .istore 5, 2, 0, 0, 0), (93, .iload 5, 2, 0, 0, 0), (95, .iload 4, 2, 0, 0, 0), (97, .if_icmp .ge 271, 3, 368, 0, 0), (100, .iload 5, 2, 0, 0, 0), (102, .istore 6, 2, 0, 0, 0), (104, .aload_n 0, 1, 0, 0, 0), (105, .invokevirtual 282, 3, 189, 0, 0), (108, .aload_n 0, 1, 0, 0, 0), (109, .getfield 280, 3, 903, 0, 0), (112, .getfield 255, 3, 805, 0, 0), (115, .iconst 1, 1, 0, 1, 0), (116, .isub, 1, 0, 0, 0), (117, .istore 7, 2, 0, 0, 0), (119, .iload 7, 2, 0, 0, 0), (121, .ifCond .lt 82, 3, 203, 0, 0), (124, .aload_n 0, 1, 0, 0, 0), (125, .getfield 42, 3, 930, 0, 0), (128, .iload 7, 2, 0, 0, 0), (130, .iload 6, 2, 0, 0, 0), (132, .aload_n 0, 1, 0, 0, 0), (133, .iload 7, 2, 0, 0, 0), (135, .invokevirtual 397, 3, 238, 0, 0), (138, .irem, 1, 0, 0, 0), (139, .iastore, 1, 0, 0, 0), (140, .iload 6, 2, 0, 0, 0), (142, .aload_n 0, 1, 0, 0, 0), (143, .iload 7, 2, 0, 0, 0), (145, .invokevirtual 397, 3, 238, 0, 0), (148, .idiv, 1, 0, 0, 0), (149, .istore 6, 2, 0, 0, 0), (151, .aload_n 0, 1, 0, 0, 0), (152, .getfield 21, 3, 917, 0, 0), (155, .bipush 6, 2, 0, 6, 0), (157, .bipush 6, 2, 0, 6, 0), (159, .aload_n 0, 1, 0, 0, 0), (160, .getfield 280, 3, 903, 0, 0), (163, .getfield 260, 3, 813, 0, 0), (166, .iload 7, 2, 0, 0, 0), (168, .iaload, 1, 0, 0, 0), (169, .imul, 1, 0, 0, 0), (170, .iadd, 1, 0, 0, 0), (171, .aload_n 0, 1, 0, 0, 0), (172, .getfield 280, 3, 903, 0, 0), (175, .getfield 263, 3, 814, 0, 0), (178, .iload 7, 2, 0, 0, 0), (180, .iaload, 1, 0, 0, 0), (181, .iadd, 1, 0, 0, 0), (182, .aload_n 0, 1, 0, 0, 0), (183, .iload 7, 2, 0, 0, 0), (185, .invokevirtual 391, 3, 237, 0, 0), (188, .aload_n 0, 1, 0, 0, 0), (189, .getfield 42, 3, 930, 0, 0), (192, .iload 7, 2, 0, 0, 0), (194, .iaload, 1, 0, 0, 0), (195, .iadd, 1, 0, 0, 0), (196, .iastore, 1, 0, 0, 0), (197, .iinc 7 (-1), 3, 0, (-1), 0), (200, .goto (-81), 3, 119, 0, 0), (203, .aload_n 0, 1, 0, 0, 0), (204, .invokevirtual 400, 3, 239, 0, 0), (207, .bipush (-2), 2, 0, (-2), 0), (209, .if_icmp .eq 6, 3, 215, 0, 0), (212, .goto 150, 3, 362, 0, 0), (215, .aload_n 0, 1, 0, 0, 0), (216, .getfield 394, 3, 933, 0, 0), (219, .iload_n 1, 1, 0, 0, 0), (220, .if_icmp .ne 36, 3, 256, 0, 0), (223, .iconst 1, 1, 0, 1, 0), (224, .istore_n 3, 1, 0, 0, 0), (225, .aload_n 0, 1, 0, 0, 0), (226, .iload_n 2, 1, 0, 0, 0), (227, .aload_n 0, 1, 0, 0, 0), (228, .getfield 280, 3, 903, 0, 0), (231, .getfield 255, 3, 805, 0, 0), (234, .if_icmp .ge 18, 3, 252, 0, 0), (237, .aload_n 0, 1, 0, 0, 0), (238, .iload_n 2, 1, 0, 0, 0), (239, .invokevirtual 391, 3, 237, 0, 0), (242, .aload_n 0, 1, 0, 0, 0), (243, .getfield 42, 3, 930, 0, 0), (246, .iload_n 2, 1, 0, 0, 0), (247, .iaload, 1, 0, 0, 0), (248, .iadd, 1, 0, 0, 0), (249, .goto 4, 3, 253, 0, 0), (252, .iconst 0, 1, 0, 0, 0), (253, .putfield 403, 3, 934, 0, 0), (256, .aload_n 0, 1, 0, 0, 0), (257, .dup, 1, 0, 0, 0), (258, .getfield 394, 3, 933, 0, 0), (261, .iconst 1, 1, 0, 1, 0), (262, .iadd, 1, 0, 0, 0), (263, .putfield 394, 3, 933, 0, 0), (266, .iconst 0, 1, 0, 0, 0), (267, .istore 7, 2, 0, 0, 0), (269, .iload 7, 2, 0, 0, 0), (271, .aload_n 0, 1, 0, 0, 0), (272, .getfield 280, 3, 903, 0, 0), (275, .getfield 255, 3, 805, 0, 0), (278, .if_icmp .ge 31, 3, 309, 0, 0), (281, .aload_n 0, 1, 0, 0, 0), (282, .getfield 45, 3, 931, 0, 0), (285, .bipush 7, 2, 0, 7, 0), (287, .iload 7, 2, 0, 0, 0), (289, .imul, 1, 0, 0, 0), (290, .aload_n 0, 1, 0, 0, 0), (291, .getfield 42, 3, 930, 0, 0), (294, .iload 7, 2, 0, 0, 0), (296, .iaload, 1, 0, 0, 0), (297, .iadd, 1, 0, 0, 0), (298, .dup2, 1, 0, 0, 0), (299, .iaload, 1, 0, 0, 0), (300, .iconst 1, 1, 0, 1, 0), (301, .iadd, 1, 0, 0, 0), (302, .iastore, 1, 0, 0, 0), (303, .iinc 7 1, 3, 0, 1, 0), (306, .goto (-37), 3, 269, 0, 0), (309, .iconst 0, 1, 0, 0, 0), (310, .istore 7, 2, 0, 0, 0), (312, .iload 7, 2, 0, 0, 0), (314, .aload_n 0, 1, 0, 0, 0), (315, .getfield 280, 3, 903, 0, 0), (318, .getfield 170, 3, 802, 0, 0), (321, .if_icmp .ge 41, 3, 362, 0, 0), (324, .aload_n 0, 1, 0, 0, 0), (325, .iload 7, 2, 0, 0, 0), (327, .invokevirtual 300, 3, 192, 0, 0), (330, .bipush (-2), 2, 0, (-2), 0), (332, .if_icmp .eq 24, 3, 356, 0, 0), (335, .aload_n 0, 1, 0, 0, 0), (336, .getfield 48, 3, 932, 0, 0), (339, .bipush 6, 2, 0, 6, 0), (341, .aload_n 0, 1, 0, 0, 0), (342, .iload 7, 2, 0, 0, 0), (344, .invokevirtual 300, 3, 192, 0, 0), (347, .imul, 1, 0, 0, 0), (348, .iload 7, 2, 0, 0, 0), (350, .iadd, 1, 0, 0, 0), (351, .dup2, 1, 0, 0, 0), (352, .iaload, 1, 0, 0, 0), (353, .iconst 1, 1, 0, 1, 0), (354, .iadd, 1, 0, 0, 0), (355, .iastore, 1, 0, 0, 0), (356, .iinc 7 1, 3, 0, 1, 0), (359, .goto (-47), 3, 312, 0, 0), (362, .iinc 5 1, 3, 0, 1, 0), (365, .goto (-272), 3, 93, 0, 0), (368, .iload_n 3, 1, 0, 0, 0), (369, .ireturn, 1, 0, 0, 0)]
/-- LastAskedModel.fits()I -/
def xc_241 : List xCe := [(0, .aload_n 0, 1, 0, 0, 0), (1, .iconst 0, 1, 0, 0, 0), (2, .putfield 51, 3, 900, 0, 0), (5, .aload_n 0, 1, 0, 0, 0), (6, .getfield 280, 3, 903, 0, 0), (9, .ifnonnull 9, 3, 18, 0, 0), (12, .aload_n 0, 1, 0, 0, 0), (13, .iconst 1, 1, 0, 1, 0), (14, .invokevirtual 57, 3, 151, 0, 0), (17, .ireturn, 1, 0, 0, 0), (18, .aload_n 0, 1, 0, 0, 0), (19, .iconst (-1), 1, 0, (-1), 0), (20, .iconst 0, 1, 0, 0, 0), (21, .invokevirtual 406, 3, 240, 0, 0), (24, .pop, 1, 0, 0, 0), (25, .aload_n 0, 1, 0, 0, 0), (26, .aload_n 0, 1, 0, 0, 0), (27, .getfield 394, 3, 933, 0, 0), (30, .invokevirtual 61, 3, 154, 0, 0), (33, .ireturn, 1, 0, 0, 0)]
/-- LastAskedModel.fitAt(II)I -/
def xc_242 : List xCe := [(0, .aload_n 0, 1, 0, 0, 0), (1, .iconst 0, 1, 0, 0, 0), (2, .putfield 51, 3, 900, 0, 0), (5, .aload_n 0, 1, 0, 0, 0), (6, .getfield 280, 3, 903, 0, 0), (9, .ifnull 22, 3, 31, 0, 0), (12, .iload_n 1, 1, 0, 0, 0), (13, .ifCond .lt 18, 3, 31, 0, 0), (16, .iload_n 2, 1, 0, 0, 0), (17, .ifCond .lt 14, 3, 31, 0, 0), (20, .iload_n 2, 1, 0, 0, 0), (21, .aload_n 0, 1, 0, 0, 0), (22, .getfield 280, 3, 903, 0, 0), (25, .getfield 255, 3, 805, 0, 0), (28, .if_icmp .lt 9, 3, 37, 0, 0), (31, .aload_n 0, 1, 0, 0, 0), (32, .iconst 1, 1, 0, 1, 0), (33, .invokevirtual 57, 3, 151, 0, 0), (36, .ireturn, 1, 0, 0, 0), (37, .aload_n 0, 1, 0, 0, 0), (38, .iload_n 1, 1, 0, 0, 0), (39, .iload_n 2, 1, 0, 0, 0), (40, .invokevirtual 406, 3, 240, 0, 0), (43, .ifCond .eq 14, 3, 57, 0, 0), (46, .aload_n 0, 1, 0, 0, 0), (47, .aload_n 0, 1, 0, 0, 0), (48, .getfield 403, 3, 934, 0, 0), (51, .invokevirtual 61, 3, 154, 0, 0), (54, .goto 8, 3, 62, 0, 0), (57, .aload_n 0, 1, 0, 0, 0), (58, .iconst 1, 1, 0, 1, 0), (59, .invokevirtual 57, 3, 151, 0, 0), (62, .ireturn, 1, 0, 0, 0)]
/-- LastAskedModel.heirBy(II)I -/
def xc_243 : List xCe := [(0, .aload_n 0, 1, 0, 0, 0), (1, .iconst 0, 1, 0, 0, 0), (2, .putfield 51, 3, 900, 0, 0), (5, .aload_n 0, 1, 0, 0, 0), (6, .iload_n 1, 1, 0, 0, 0), (7, .iload_n 2, 1, 0, 0, 0), (8, .invokevirtual 326, 3, 187, 0, 0), (11, .ifCond .ne 9, 3, 20, 0, 0), (14, .aload_n 0, 1, 0, 0, 0), (15, .iconst 1, 1, 0, 1, 0), (16, .invokevirtual 57, 3, 151, 0, 0), (19, .ireturn, 1, 0, 0, 0), (20, .aload_n 0, 1, 0, 0, 0), (21, .iconst (-1), 1, 0, (-1), 0), (22, .iconst 0, 1, 0, 0, 0), (23, .invokevirtual 406, 3, 240, 0, 0), (26, .pop, 1, 0, 0, 0), (27, .aload_n 0, 1, 0, 0, 0), (28, .aload_n 0, 1, 0, 0, 0), (29, .getfield 48, 3, 932, 0, 0), (32, .bipush 6, 2, 0, 6, 0), (34, .iload_n 1, 1, 0, 0, 0), (35, .imul, 1, 0, 0, 0), (36, .iload_n 2, 1, 0, 0, 0), (37, .iadd, 1, 0, 0, 0), (38, .iaload, 1, 0, 0, 0), (39, .invokevirtual 61, 3, 154, 0, 0), (42, .ireturn, 1, 0, 0, 0)]
/-- LastAskedModel.looks()I -/
def xc_244 : List xCe := [(0, .aload_n 0, 1, 0, 0, 0), (1, .iconst (-1), 1, 0, (-1), 0), (2, .iconst 0, 1, 0, 0, 0), (3, .invokevirtual 406, 3, 240, 0, 0), (6, .pop, 1, 0, 0, 0), (7, .bipush (-2), 2, 0, (-2), 0), (9, .istore_n 1, 1, 0, 0, 0), (10, .aload_n 0, 1, 0, 0, 0), (11, .bipush (-2), 2, 0, (-2), 0), (13, .putfield 409, 3, 935, 0, 0), (16, .iconst 0, 1, 0, 0, 0), (17, .istore_n 2, 1, 0, 0, 0), (18, .iload_n 2, 1, 0, 0, 0), (19, .aload_n 0, 1, 0, 0, 0), (20, .getfield 280, 3, 903, 0, 0), (23, .getfield 255, 3, 805, 0, 0), (26, .if_icmp .ge 87, 3, 113, 0, 0), (29, .aload_n 0, 1, 0, 0, 0), (30, .getfield 394, 3, 933, 0, 0), (33, .ifCond .le 80, 3, 113, 0, 0), (36, .iconst 0, 1, 0, 0, 0), (37, .istore_n 3, 1, 0, 0, 0), (38, .iconst 0, 1, 0, 0, 0), (39, .istore 4, 2, 0, 0, 0), (41, .iload 4, 2, 0, 0, 0), (43, .bipush 7, 2, 0, 7, 0), (45, .if_icmp .ge 38, 3, 83, 0, 0), (48, .aload_n 0, 1, 0, 0, 0), (49, .getfield 45, 3, 931, 0, 0), (52, .bipush 7, 2, 0, 7, 0), (54, .iload_n 2, 1, 0, 0, 0), (55, .imul, 1, 0, 0, 0), (56, .iload 4, 2, 0, 0, 0), (58, .iadd, 1, 0, 0, 0), (59, .iaload, 1, 0, 0, 0), (60, .iload_n 3, 1, 0, 0, 0), (61, .if_icmp .le 16, 3, 77, 0, 0), (64, .aload_n 0, 1, 0, 0, 0), (65, .getfield 45, 3, 931, 0, 0), (68, .bipush 7, 2, 0, 7, 0), (70, .iload_n 2, 1, 0, 0, 0), (71, .imul, 1, 0, 0, 0), (72, .iload 4, 2, 0, 0, 0), (74, .iadd, 1, 0, 0, 0), (75, .iaload, 1, 0, 0, 0), (76, .istore_n 3, 1, 0, 0, 0), (77, .iinc 4 1, 3, 0, 1, 0), (80, .goto (-39), 3, 41, 0, 0), (83, .iload_n 1, 1, 0, 0, 0), (84, .bipush (-2), 2, 0, (-2), 0), (86, .if_icmp .eq 14, 3, 100, 0, 0), (89, .iload_n 3, 1, 0, 0, 0), (90, .aload_n 0, 1, 0, 0, 0), (91, .getfield 409, 3, 935, 0, 0), (94, .if_icmp .lt 6, 3, 100, 0, 0), (97, .goto 10, 3, 107, 0, 0), (100, .iload_n 2, 1, 0, 0, 0), (101, .istore_n 1, 1, 0, 0, 0), (102, .aload_n 0, 1, 0, 0, 0), (103, .iload_n 3, 1, 0, 0, 0), (104, .putfield 409, 3, 935, 0, 0), (107, .iinc 2 1, 3, 0, 1, 0), (110, .goto (-92), 3, 18, 0, 0), (113, .iload_n 1, 1, 0, 0, 0), (114, .ireturn, 1, 0, 0, 0)]
/-- LastAskedModel.look()I -/
def xc_245 : List xCe := [(0, .aload_n 0, 1, 0, 0, 0), (1, .iconst 0, 1, 0, 0, 0), (2, .putfield 51, 3, 900, 0, 0), (5, .aload_n 0, 1, 0, 0, 0), (6, .getfield 280, 3, 903, 0, 0), (9, .ifnonnull 11, 3, 20, 0, 0), (12, .aload_n 0, 1, 0, 0, 0), (13, .iconst 1, 1, 0, 1, 0), (14, .invokevirtual 57, 3, 151, 0, 0), (17, .goto 11, 3, 28, 0, 0), (20, .aload_n 0, 1, 0, 0, 0), (21, .aload_n 0, 1, 0, 0, 0), (22, .invokevirtual 412, 3, 244, 0, 0), (25, .invokevirtual 61, 3, 154, 0, 0), (28, .ireturn, 1, 0, 0, 0)]
/-- LastAskedModel.lookLeaves()I -/
def xc_246 : List xCe := [(0, .aload_n 0, 1, 0, 0, 0), (1, .iconst 0, 1, 0, 0, 0), (2, .putfield 51, 3, 900, 0, 0), (5, .aload_n 0, 1, 0, 0, 0), (6, .getfield 280, 3, 903, 0, 0), (9, .ifnonnull 9, 3, 18, 0, 0), (12, .aload_n 0, 1, 0, 0, 0), (13, .iconst 1, 1, 0, 1, 0), (14, .invokevirtual 57, 3, 151, 0, 0), (17, .ireturn, 1, 0, 0, 0), (18, .aload_n 0, 1, 0, 0, 0), (19, .invokevirtual 412, 3, 244, 0, 0), (22, .pop, 1, 0, 0, 0), (23, .aload_n 0, 1, 0, 0, 0), (24, .aload_n 0, 1, 0, 0, 0), (25, .getfield 409, 3, 935, 0, 0), (28, .invokevirtual 61, 3, 154, 0, 0), (31, .ireturn, 1, 0, 0, 0)]
/-- LastAskedModel.judge()I -/
def xc_247 : List xCe := [(0, .aload_n 0, 1, 0, 0, 0), (1, .iconst 0, 1, 0, 0, 0), (2, .putfield 51, 3, 900, 0, 0), (5, .aload_n 0, 1, 0, 0, 0), (6, .getfield 280, 3, 903, 0, 0), (9, .ifnonnull 9, 3, 18, 0, 0), (12, .aload_n 0, 1, 0, 0, 0), (13, .iconst 1, 1, 0, 1, 0), (14, .invokevirtual 57, 3, 151, 0, 0), (17, .ireturn, 1, 0, 0, 0), (18, .aload_n 0, 1, 0, 0, 0), (19, .invokevirtual 282, 3, 189, 0, 0), (22, .aload_n 0, 1, 0, 0, 0), (23, .aload_n 0, 1, 0, 0, 0), (24, .invokevirtual 400, 3, 239, 0, 0), (27, .invokevirtual 61, 3, 154, 0, 0), (30, .ireturn, 1, 0, 0, 0)]
/-- LastAskedModel.rich(IZZ)I -/
def xc_248 : List xCe := [(0, .iload_n 1, 1, 0, 0, 0), (1, .ifCond .eq 16, 3, 17, 0, 0), (4, .iload_n 2, 1, 0, 0, 0), (5, .ifCond .eq 8, 3, 13, 0, 0), (8, .bipush (-2), 2, 0, (-2), 0), (10, .goto 17, 3, 27, 0, 0), (13, .iconst 1, 1, 0, 1, 0), (14, .goto 13, 3, 27, 0, 0), (17, .iload_n 2, 1, 0, 0, 0), (18, .ifCond .eq 8, 3, 26, 0, 0), (21, .iload_n 0, 1, 0, 0, 0), (22, .ineg, 1, 0, 0, 0), (23, .goto 4, 3, 27, 0, 0), (26, .iconst 0, 1, 0, 0, 0), (27, .ireturn, 1, 0, 0, 0)]
/-- LastAskedModel.beggar(ZZ)I -/
def xc_249 : List xCe := [(0, .iload_n 1, 1, 0, 0, 0), (1, .ifCond .eq 15, 3, 16, 0, 0), (4, .iload_n 0, 1, 0, 0, 0), (5, .ifCond .eq 7, 3, 12, 0, 0), (8, .iconst 4, 1, 0, 4, 0), (9, .goto 8, 3, 17, 0, 0), (12, .iconst (-1), 1, 0, (-1), 0), (13, .goto 4, 3, 17, 0, 0), (16, .iconst 0, 1, 0, 0, 0), (17, .ireturn, 1, 0, 0, 0)]
/-- LastAskedModel.refusesShame(I)I -/
def xc_250 : List xCe := [(0, .aload_n 0, 1, 0, 0, 0), (1, .getfield 280, 3, 903, 0, 0), (4, .ifnonnull 7, 3, 11, 0, 0), (7, .iconst 1, 1, 0, 1, 0), (8, .goto 18, 3, 26, 0, 0), (11, .iload_n 1, 1, 0, 0, 0), (12, .iconst 0, 1, 0, 0, 0), (13, .bipush 9, 2, 0, 9, 0), (15, .invokestatic 130, 3, 156, 0, 0), (18, .ifCond .eq 7, 3, 25, 0, 0), (21, .iconst 0, 1, 0, 0, 0), (22, .goto 4, 3, 26, 0, 0), (25, .iconst 2, 1, 0, 2, 0), (26, .ireturn, 1, 0, 0, 0)]
/-- LastAskedModel.begs(IZZZ)I -/
def xc_251 : List xCe := [(0, .aload_n 0, 1, 0, 0, 0), (1, .iconst 0, 1, 0, 0, 0), (2, .putfield 51, 3, 900, 0, 0), (5, .aload_n 0, 1, 0, 0, 0), (6, .iload_n 1, 1, 0, 0, 0), (7, .invokevirtual 415, 3, 250, 0, 0), (10, .istore 5, 2, 0, 0, 0), (12, .iload 5, 2, 0, 0, 0), (14, .ifCond .le 12, 3, 26, 0, 0), (17, .aload_n 0, 1, 0, 0, 0), (18, .iload 5, 2, 0, 0, 0), (20, .invokevirtual 418, 3, 152, 0, 0), (23, .goto 26, 3, 49, 0, 0), (26, .aload_n 0, 1, 0, 0, 0), (27, .iload 4, 2, 0, 0, 0), (29, .ifCond .eq 11, 3, 40, 0, 0), (32, .iload_n 2, 1, 0, 0, 0), (33, .iload_n 3, 1, 0, 0, 0), (34, .invokestatic 421, 3, 249, 0, 0), (37, .goto 9, 3, 46, 0, 0), (40, .iload_n 1, 1, 0, 0, 0), (41, .iload_n 2, 1, 0, 0, 0), (42, .iload_n 3, 1, 0, 0, 0), (43, .invokestatic 425, 3, 248, 0, 0), (46, .invokevirtual 61, 3, 154, 0, 0), (49, .ireturn, 1, 0, 0, 0)]
/-- LastAskedModel.isRest(II)Z -/
def xc_252 : List xCe := [(0, .iload_n 1, 1, 0, 0, 0), (1, .iconst 1, 1, 0, 1, 0), (2, .if_icmp .le 7, 3, 9, 0, 0), (5, .iconst 1, 1, 0, 1, 0), (6, .goto 4, 3, 10, 0, 0), (9, .iconst 0, 1, 0, 0, 0), (10, .istore_n 2, 1, 0, 0, 0), (11, .iload_n 1, 1, 0, 0, 0), (12, .iconst 2, 1, 0, 2, 0), (13, .irem, 1, 0, 0, 0), (14, .iconst 1, 1, 0, 1, 0), (15, .if_icmp .ne 7, 3, 22, 0, 0), (18, .iconst 1, 1, 0, 1, 0), (19, .goto 4, 3, 23, 0, 0), (22, .iconst 0, 1, 0, 0, 0), (23, .istore_n 3, 1, 0, 0, 0), (24, .iload_n 0, 1, 0, 0, 0), (25, .iload_n 2, 1, 0, 0, 0), (26, .ifCond .ne 7, 3, 33, 0, 0), (29, .iconst 1, 1, 0, 1, 0), (30, .goto 4, 3, 34, 0, 0), (33, .iconst 0, 1, 0, 0, 0), (34, .iload_n 3, 1, 0, 0, 0), (35, .invokestatic 425, 3, 248, 0, 0), (38, .iload_n 0, 1, 0, 0, 0), (39, .iload_n 2, 1, 0, 0, 0), (40, .iload_n 3, 1, 0, 0, 0), (41, .invokestatic 425, 3, 248, 0, 0), (44, .if_icmp .gt 28, 3, 72, 0, 0), (47, .iload_n 2, 1, 0, 0, 0), (48, .iload_n 3, 1, 0, 0, 0), (49, .ifCond .ne 7, 3, 56, 0, 0), (52, .iconst 1, 1, 0, 1, 0), (53, .goto 4, 3, 57, 0, 0), (56, .iconst 0, 1, 0, 0, 0), (57, .invokestatic 421, 3, 249, 0, 0), (60, .iload_n 2, 1, 0, 0, 0), (61, .iload_n 3, 1, 0, 0, 0), (62, .invokestatic 421, 3, 249, 0, 0), (65, .if_icmp .gt 7, 3, 72, 0, 0), (68, .iconst 1, 1, 0, 1, 0), (69, .goto 4, 3, 73, 0, 0), (72, .iconst 0, 1, 0, 0, 0), (73, .ireturn, 1, 0, 0, 0)]
/-- LastAskedModel.rests(I)I -/
def xc_253 : List xCe := [(0, .aload_n 0, 1, 0, 0, 0), (1, .iconst 0, 1, 0, 0, 0), (2, .putfield 51, 3, 900, 0, 0), (5, .aload_n 0, 1, 0, 0, 0), (6, .iload_n 1, 1, 0, 0, 0), (7, .invokevirtual 415, 3, 250, 0, 0), (10, .istore_n 2, 1, 0, 0, 0), (11, .iload_n 2, 1, 0, 0, 0), (12, .ifCond .le 9, 3, 21, 0, 0), (15, .aload_n 0, 1, 0, 0, 0), (16, .iload_n 2, 1, 0, 0, 0), (17, .invokevirtual 57, 3, 151, 0, 0), (20, .ireturn, 1, 0, 0, 0), (21, .iconst 0, 1, 0, 0, 0), (22, .istore_n 3, 1, 0, 0, 0), (23, .iconst 0, 1, 0, 0, 0), (24, .istore 4, 2, 0, 0, 0), (26, .iload 4, 2, 0, 0, 0), (28, .iconst 4, 1, 0, 4, 0), (29, .if_icmp .ge 26, 3, 55, 0, 0), (32, .iload_n 3, 1, 0, 0, 0), (33, .iload_n 1, 1, 0, 0, 0), (34, .iload 4, 2, 0, 0, 0), (36, .invokestatic 429, 3, 252, 0, 0), (39, .ifCond .eq 7, 3, 46, 0, 0), (42, .iconst 1, 1, 0, 1, 0), (43, .goto 4, 3, 47, 0, 0), (46, .iconst 0, 1, 0, 0, 0), (47, .iadd, 1, 0, 0, 0), (48, .istore_n 3, 1, 0, 0, 0), (49, .iinc 4 1, 3, 0, 1, 0), (52, .goto (-26), 3, 26, 0, 0), (55, .aload_n 0, 1, 0, 0, 0), (56, .iload_n 3, 1, 0, 0, 0), (57, .invokevirtual 61, 3, 154, 0, 0), (60, .ireturn, 1, 0, 0, 0)]
/-- LastAskedModel.rest(I)I -/
def xc_254 : List xCe := [(0, .aload_n 0, 1, 0, 0, 0), (1, .iconst 0, 1, 0, 0, 0), (2, .putfield 51, 3, 900, 0, 0), (5, .aload_n 0, 1, 0, 0, 0), (6, .iload_n 1, 1, 0, 0, 0), (7, .invokevirtual 415, 3, 250, 0, 0), (10, .istore_n 2, 1, 0, 0, 0), (11, .iload_n 2, 1, 0, 0, 0), (12, .ifCond .le 9, 3, 21, 0, 0), (15, .aload_n 0, 1, 0, 0, 0), (16, .iload_n 2, 1, 0, 0, 0), (17, .invokevirtual 57, 3, 151, 0, 0), (20, .ireturn, 1, 0, 0, 0), (21, .iconst 0, 1, 0, 0, 0), (22, .istore_n 3, 1, 0, 0, 0), (23, .iload_n 3, 1, 0, 0, 0), (24, .iconst 4, 1, 0, 4, 0), (25, .if_icmp .ge 32, 3, 57, 0, 0), (28, .iload_n 1, 1, 0, 0, 0), (29, .iload_n 3, 1, 0, 0, 0), (30, .invokestatic 429, 3, 252, 0, 0), (33, .ifCond .eq 18, 3, 51, 0, 0), (36, .aload_n 0, 1, 0, 0, 0), (37, .bipush 10, 2, 0, 10, 0), (39, .iload_n 3, 1, 0, 0, 0), (40, .iconst 2, 1, 0, 2, 0), (41, .idiv, 1, 0, 0, 0), (42, .imul, 1, 0, 0, 0), (43, .iload_n 3, 1, 0, 0, 0), (44, .iconst 2, 1, 0, 2, 0), (45, .irem, 1, 0, 0, 0), (46, .iadd, 1, 0, 0, 0), (47, .invokevirtual 61, 3, 154, 0, 0), (50, .ireturn, 1, 0, 0, 0), (51, .iinc 3 1, 3, 0, 1, 0), (54, .goto (-31), 3, 23, 0, 0), (57, .aload_n 0, 1, 0, 0, 0), (58, .bipush (-2), 2, 0, (-2), 0), (60, .invokevirtual 61, 3, 154, 0, 0), (63, .ireturn, 1, 0, 0, 0)]
/-- LastAskedModel.aNight(Z)I -/
def xc_255 : List xCe := [(0, .iconst 0, 1, 0, 0, 0), (1, .istore_n 2, 1, 0, 0, 0), (2, .iconst 0, 1, 0, 0, 0), (3, .istore_n 3, 1, 0, 0, 0), (4, .iload_n 3, 1, 0, 0, 0), (5, .aload_n 0, 1, 0, 0, 0), (6, .getfield 280, 3, 903, 0, 0), (9, .getfield 170, 3, 802, 0, 0), (12, .if_icmp .ge 80, 3, 92, 0, 0), (15, .aload_n 0, 1, 0, 0, 0), (16, .iload_n 3, 1, 0, 0, 0), (17, .invokevirtual 294, 3, 190, 0, 0), (20, .ifCond .ne 6, 3, 26, 0, 0), (23, .goto 63, 3, 86, 0, 0), (26, .aload_n 0, 1, 0, 0, 0), (27, .getfield 21, 3, 917, 0, 0), (30, .bipush 46, 2, 0, 46, 0), (32, .ldc2_w 432, 3, 0, 0, 75), (35, .aload_n 0, 1, 0, 0, 0), (36, .getfield 21, 3, 917, 0, 0), (39, .bipush 46, 2, 0, 46, 0), (41, .iaload, 1, 0, 0, 0), (42, .i2l, 1, 0, 0, 0), (43, .lmul, 1, 0, 0, 0), (44, .ldc2_w 434, 3, 0, 0, 74), (47, .ladd, 1, 0, 0, 0), (48, .ldc2_w 436, 3, 0, 0, 65537), (51, .lrem, 1, 0, 0, 0), (52, .l2i, 1, 0, 0, 0), (53, .iastore, 1, 0, 0, 0), (54, .iload_n 2, 1, 0, 0, 0), (55, .aload_n 0, 1, 0, 0, 0), (56, .getfield 21, 3, 917, 0, 0), (59, .bipush 46, 2, 0, 46, 0), (61, .iaload, 1, 0, 0, 0), (62, .bipush 100, 2, 0, 100, 0), (64, .irem, 1, 0, 0, 0), (65, .aload_n 0, 1, 0, 0, 0), (66, .getfield 280, 3, 903, 0, 0), (69, .getfield 225, 3, 809, 0, 0), (72, .iload_n 3, 1, 0, 0, 0), (73, .iaload, 1, 0, 0, 0), (74, .if_icmp .ge 9, 3, 83, 0, 0), (77, .iconst 1, 1, 0, 1, 0), (78, .iload_n 3, 1, 0, 0, 0), (79, .ishl, 1, 0, 0, 0), (80, .goto 4, 3, 84, 0, 0), (83, .iconst 0, 1, 0, 0, 0), (84, .ior, 1, 0, 0, 0), (85, .istore_n 2, 1, 0, 0, 0), (86, .iinc 3 1, 3, 0, 1, 0), (89, .goto (-85), 3, 4, 0, 0), (92, .aload_n 0, 1, 0, 0, 0), (93, .iload_n 2, 1, 0, 0, 0), (94, .iload_n 1, 1, 0, 0, 0), (95, .invokevirtual 438, 3, 196, 0, 0), (98, .iload_n 2, 1, 0, 0, 0), (99, .ireturn, 1, 0, 0, 0)]
/-- LastAskedModel.nightsAll(II)V -/
def xc_256 : List xCe := [(0, .aload_n 0, 1, 0, 0, 0), (1, .invokevirtual 315, 3, 188, 0, 0), (4, .aload_n 0, 1, 0, 0, 0), (5, .getfield 21, 3, 917, 0, 0), (8, .bipush 46, 2, 0, 46, 0), (10, .iload_n 1, 1, 0, 0, 0), (11, .iastore, 1, 0, 0, 0), (12, .aload_n 0, 1, 0, 0, 0), (13, .bipush (-2), 2, 0, (-2), 0), (15, .putfield 442, 3, 936, 0, 0), (18, .iconst 1, 1, 0, 1, 0), (19, .istore_n 3, 1, 0, 0, 0), (20, .iload_n 3, 1, 0, 0, 0), (21, .iload_n 2, 1, 0, 0, 0), (22, .if_icmp .gt 46, 3, 68, 0, 0), (25, .aload_n 0, 1, 0, 0, 0), (26, .iconst 0, 1, 0, 0, 0), (27, .invokevirtual 445, 3, 255, 0, 0), (30, .pop, 1, 0, 0, 0), (31, .aload_n 0, 1, 0, 0, 0), (32, .getfield 442, 3, 936, 0, 0), (35, .bipush (-2), 2, 0, (-2), 0), (37, .if_icmp .ne 25, 3, 62, 0, 0), (40, .aload_n 0, 1, 0, 0, 0), (41, .getfield 21, 3, 917, 0, 0), (44, .bipush 43, 2, 0, 43, 0), (46, .iaload, 1, 0, 0, 0), (47, .aload_n 0, 1, 0, 0, 0), (48, .getfield 17, 3, 916, 0, 0), (51, .bipush 43, 2, 0, 43, 0), (53, .iaload, 1, 0, 0, 0), (54, .if_icmp .le 8, 3, 62, 0, 0), (57, .aload_n 0, 1, 0, 0, 0), (58, .iload_n 3, 1, 0, 0, 0), (59, .putfield 442, 3, 936, 0, 0), (62, .iinc 3 1, 3, 0, 1, 0), (65, .goto (-45), 3, 20, 0, 0), (68, .return_, 1, 0, 0, 0)]
/-- LastAskedModel.refusesSeed(ZII)I -/
def xc_257 : List xCe := [(0, .iload_n 1, 1, 0, 0, 0), (1, .ifCond .ne 7, 3, 8, 0, 0), (4, .iconst 1, 1, 0, 1, 0), (5, .goto 29, 3, 34, 0, 0), (8, .iload_n 2, 1, 0, 0, 0), (9, .iconst 0, 1, 0, 0, 0), (10, .ldc_w 449, 3, 0, 65536, 0), (13, .invokestatic 130, 3, 156, 0, 0), (16, .ifCond .eq 17, 3, 33, 0, 0), (19, .iload_n 3, 1, 0, 0, 0), (20, .iconst 0, 1, 0, 0, 0), (21, .bipush 60, 2, 0, 60, 0), (23, .invokestatic 130, 3, 156, 0, 0), (26, .ifCond .eq 7, 3, 33, 0, 0), (29, .iconst 0, 1, 0, 0, 0), (30, .goto 4, 3, 34, 0, 0), (33, .iconst 2, 1, 0, 2, 0), (34, .ireturn, 1, 0, 0, 0)]
/-- LastAskedModel.nights(III)I -/
def xc_258 : List xCe := [(0, .aload_n 0, 1, 0, 0, 0), (1, .iconst 0, 1, 0, 0, 0), (2, .putfield 51, 3, 900, 0, 0), (5, .aload_n 0, 1, 0, 0, 0), (6, .aload_n 0, 1, 0, 0, 0), (7, .iload_n 1, 1, 0, 0, 0), (8, .invokevirtual 291, 3, 186, 0, 0), (11, .iload_n 2, 1, 0, 0, 0), (12, .iload_n 3, 1, 0, 0, 0), (13, .invokevirtual 450, 3, 257, 0, 0), (16, .istore 4, 2, 0, 0, 0), (18, .iload 4, 2, 0, 0, 0), (20, .ifCond .le 10, 3, 30, 0, 0), (23, .aload_n 0, 1, 0, 0, 0), (24, .iload 4, 2, 0, 0, 0), (26, .invokevirtual 57, 3, 151, 0, 0), (29, .ireturn, 1, 0, 0, 0), (30, .aload_n 0, 1, 0, 0, 0), (31, .iload_n 2, 1, 0, 0, 0), (32, .iload_n 3, 1, 0, 0, 0), (33, .invokevirtual 454, 3, 256, 0, 0), (36, .aload_n 0, 1, 0, 0, 0), (37, .aload_n 0, 1, 0, 0, 0), (38, .getfield 21, 3, 917, 0, 0), (41, .iload_n 1, 1, 0, 0, 0), (42, .iaload, 1, 0, 0, 0), (43, .invokevirtual 61, 3, 154, 0, 0), (46, .ireturn, 1, 0, 0, 0)]
/-- LastAskedModel.lives(II)I -/
def xc_259 : List xCe := [(0, .aload_n 0, 1, 0, 0, 0), (1, .iconst 0, 1, 0, 0, 0), (2, .putfield 51, 3, 900, 0, 0), (5, .aload_n 0, 1, 0, 0, 0), (6, .aload_n 0, 1, 0, 0, 0), (7, .getfield 280, 3, 903, 0, 0), (10, .ifnull 7, 3, 17, 0, 0), (13, .iconst 1, 1, 0, 1, 0), (14, .goto 4, 3, 18, 0, 0), (17, .iconst 0, 1, 0, 0, 0), (18, .iload_n 1, 1, 0, 0, 0), (19, .iload_n 2, 1, 0, 0, 0), (20, .invokevirtual 450, 3, 257, 0, 0), (23, .istore_n 3, 1, 0, 0, 0), (24, .iload_n 3, 1, 0, 0, 0), (25, .ifCond .le 9, 3, 34, 0, 0), (28, .aload_n 0, 1, 0, 0, 0), (29, .iload_n 3, 1, 0, 0, 0), (30, .invokevirtual 57, 3, 151, 0, 0), (33, .ireturn, 1, 0, 0, 0), (34, .aload_n 0, 1, 0, 0, 0), (35, .iload_n 1, 1, 0, 0, 0), (36, .iload_n 2, 1, 0, 0, 0), (37, .invokevirtual 454, 3, 256, 0, 0), (40, .aload_n 0, 1, 0, 0, 0), (41, .aload_n 0, 1, 0, 0, 0), (42, .getfield 21, 3, 917, 0, 0), (45, .bipush 42, 2, 0, 42, 0), (47, .iaload, 1, 0, 0, 0), (48, .invokevirtual 61, 3, 154, 0, 0), (51, .ireturn, 1, 0, 0, 0)]
/-- LastAskedModel.firstCat(II)I -/
def xc_260 : List xCe := [(0, .aload_n 0, 1, 0, 0, 0), (1, .iconst 0, 1, 0, 0, 0), (2, .putfield 51, 3, 900, 0, 0), (5, .aload_n 0, 1, 0, 0, 0), (6, .aload_n 0, 1, 0, 0, 0), (7, .getfield 280, 3, 903, 0, 0), (10, .ifnull 7, 3, 17, 0, 0), (13, .iconst 1, 1, 0, 1, 0), (14, .goto 4, 3, 18, 0, 0), (17, .iconst 0, 1, 0, 0, 0), (18, .iload_n 1, 1, 0, 0, 0), (19, .iload_n 2, 1, 0, 0, 0), (20, .invokevirtual 450, 3, 257, 0, 0), (23, .istore_n 3, 1, 0, 0, 0), (24, .iload_n 3, 1, 0, 0, 0), (25, .ifCond .le 9, 3, 34, 0, 0), (28, .aload_n 0, 1, 0, 0, 0), (29, .iload_n 3, 1, 0, 0, 0), (30, .invokevirtual 57, 3, 151, 0, 0), (33, .ireturn, 1, 0, 0, 0), (34, .aload_n 0, 1, 0, 0, 0), (35, .iload_n 1, 1, 0, 0, 0), (36, .iload_n 2, 1, 0, 0, 0), (37, .invokevirtual 454, 3, 256, 0, 0), (40, .aload_n 0, 1, 0, 0, 0), (41, .aload_n 0, 1, 0, 0, 0), (42, .getfield 442, 3, 936, 0, 0), (45, .invokevirtual 61, 3, 154, 0, 0), (48, .ireturn, 1, 0, 0, 0)]
/-- LastAskedModel.remembers()V -/
def xc_261 : List xCe := [(0, .aload_n 0, 1, 0, 0, 0), (1, .getfield 285, 3, 920, 0, 0), (4, .bipush 16, 2, 0, 16, 0), (6, .if_icmp .ne 43, 3, 49, 0, 0), (9, .iconst 0, 1, 0, 0, 0), (10, .istore_n 1, 1, 0, 0, 0), (11, .iload_n 1, 1, 0, 0, 0), (12, .sipush 705, 3, 0, 705, 0), (15, .if_icmp .ge 24, 3, 39, 0, 0), (18, .aload_n 0, 1, 0, 0, 0), (19, .getfield 24, 3, 918, 0, 0), (22, .iload_n 1, 1, 0, 0, 0), (23, .aload_n 0, 1, 0, 0, 0), (24, .getfield 24, 3, 918, 0, 0), (27, .iload_n 1, 1, 0, 0, 0), (28, .bipush 47, 2, 0, 47, 0), (30, .iadd, 1, 0, 0, 0), (31, .iaload, 1, 0, 0, 0), (32, .iastore, 1, 0, 0, 0), (33, .iinc 1 1, 3, 0, 1, 0), (36, .goto (-25), 3, 11, 0, 0), (39, .aload_n 0, 1, 0, 0, 0), (40, .dup, 1, 0, 0, 0), (41, .getfield 285, 3, 920, 0, 0), (44, .iconst 1, 1, 0, 1, 0), (45, .isub, 1, 0, 0, 0), (46, .putfield 285, 3, 920, 0, 0), (49, .iconst 0, 1, 0, 0, 0), (50, .istore_n 1, 1, 0, 0, 0), (51, .iload_n 1, 1, 0, 0, 0), (52, .bipush 47, 2, 0, 47, 0), (54, .if_icmp .ge 29, 3, 83, 0, 0), (57, .aload_n 0, 1, 0, 0, 0), (58, .getfield 24, 3, 918, 0, 0), (61, .bipush 47, 2, 0, 47, 0), (63, .aload_n 0, 1, 0, 0, 0), (64, .getfield 285, 3, 920, 0, 0), (67, .imul, 1, 0, 0, 0), (68, .iload_n 1, 1, 0, 0, 0), (69, .iadd, 1, 0, 0, 0), (70, .aload_n 0, 1, 0, 0, 0), (71, .getfield 17, 3, 916, 0, 0), (74, .iload_n 1, 1, 0, 0, 0), (75, .iaload, 1, 0, 0, 0), (76, .iastore, 1, 0, 0, 0), (77, .iinc 1 1, 3, 0, 1, 0), (80, .goto (-29), 3, 51, 0, 0), (83, .aload_n 0, 1, 0, 0, 0), (84, .dup, 1, 0, 0, 0), (85, .getfield 285, 3, 920, 0, 0), (88, .iconst 1, 1, 0, 1, 0), (89, .iadd, 1, 0, 0, 0), (90, .putfield 285, 3, 920, 0, 0), (93, .return_, 1, 0, 0, 0)]
/-- LastAskedModel.stays()V -/
def xc_262 : List xCe := [(0, .iconst 0, 1, 0, 0, 0), (1, .istore_n 1, 1, 0, 0, 0), (2, .iload_n 1, 1, 0, 0, 0), (3, .bipush 47, 2, 0, 47, 0), (5, .if_icmp .ge 21, 3, 26, 0, 0), (8, .aload_n 0, 1, 0, 0, 0), (9, .getfield 17, 3, 916, 0, 0), (12, .iload_n 1, 1, 0, 0, 0), (13, .aload_n 0, 1, 0, 0, 0), (14, .getfield 21, 3, 917, 0, 0), (17, .iload_n 1, 1, 0, 0, 0), (18, .iaload, 1, 0, 0, 0), (19, .iastore, 1, 0, 0, 0), (20, .iinc 1 1, 3, 0, 1, 0), (23, .goto (-21), 3, 2, 0, 0), (26, .return_, 1, 0, 0, 0)]
/-- LastAskedModel.ask(II)I -/
def xc_263 : List xCe := [(0, .aload_n 0, 1, 0, 0, 0), (1, .iconst 0, 1, 0, 0, 0), (2, .putfield 51, 3, 900, 0, 0), (5, .aload_n 0, 1, 0, 0, 0), (6, .iload_n 1, 1, 0, 0, 0), (7, .iload_n 2, 1, 0, 0, 0), (8, .invokevirtual 326, 3, 187, 0, 0), (11, .ifCond .ne 9, 3, 20, 0, 0), (14, .aload_n 0, 1, 0, 0, 0), (15, .iconst 1, 1, 0, 1, 0), (16, .invokevirtual 57, 3, 151, 0, 0), (19, .ireturn, 1, 0, 0, 0), (20, .aload_n 0, 1, 0, 0, 0), (21, .getfield 17, 3, 916, 0, 0), (24, .bipush 42, 2, 0, 42, 0), (26, .iaload, 1, 0, 0, 0), (27, .iload_n 1, 1, 0, 0, 0), (28, .invokestatic 235, 3, 157, 0, 0), (31, .ifCond .eq 17, 3, 48, 0, 0), (34, .aload_n 0, 1, 0, 0, 0), (35, .getfield 17, 3, 916, 0, 0), (38, .bipush 42, 2, 0, 42, 0), (40, .iaload, 1, 0, 0, 0), (41, .iload_n 2, 1, 0, 0, 0), (42, .invokestatic 235, 3, 157, 0, 0), (45, .ifCond .ne 9, 3, 54, 0, 0), (48, .aload_n 0, 1, 0, 0, 0), (49, .iconst 5, 1, 0, 5, 0), (50, .invokevirtual 57, 3, 151, 0, 0), (53, .ireturn, 1, 0, 0, 0), (54, .aload_n 0, 1, 0, 0, 0), (55, .getfield 280, 3, 903, 0, 0), (58, .iload_n 1, 1, 0, 0, 0), (59, .iload_n 2, 1, 0, 0, 0), (60, .invokevirtual 244, 3, 148, 0, 0), (63, .ifCond .ne 10, 3, 73, 0, 0), (66, .aload_n 0, 1, 0, 0, 0), (67, .bipush 6, 2, 0, 6, 0), (69, .invokevirtual 57, 3, 151, 0, 0), (72, .ireturn, 1, 0, 0, 0), (73, .aload_n 0, 1, 0, 0, 0), (74, .getfield 17, 3, 916, 0, 0), (77, .bipush 44, 2, 0, 44, 0), (79, .iaload, 1, 0, 0, 0), (80, .sipush 999, 3, 0, 999, 0), (83, .if_icmp .ne 9, 3, 92, 0, 0), (86, .aload_n 0, 1, 0, 0, 0), (87, .iconst 3, 1, 0, 3, 0), (88, .invokevirtual 57, 3, 151, 0, 0), (91, .ireturn, 1, 0, 0, 0), (92, .aload_n 0, 1, 0, 0, 0), (93, .invokevirtual 457, 3, 261, 0, 0), (96, .aload_n 0, 1, 0, 0, 0), (97, .invokevirtual 315, 3, 188, 0, 0), (100, .aload_n 0, 1, 0, 0, 0), (101, .getfield 21, 3, 917, 0, 0), (104, .iload_n 1, 1, 0, 0, 0), (105, .iaload, 1, 0, 0, 0), (106, .istore_n 3, 1, 0, 0, 0), (107, .aload_n 0, 1, 0, 0, 0), (108, .iload_n 1, 1, 0, 0, 0), (109, .iload_n 2, 1, 0, 0, 0), (110, .invokevirtual 368, 3, 224, 0, 0), (113, .aload_n 0, 1, 0, 0, 0), (114, .invokevirtual 460, 3, 262, 0, 0), (117, .aload_n 0, 1, 0, 0, 0), (118, .aload_n 0, 1, 0, 0, 0), (119, .getfield 17, 3, 916, 0, 0), (122, .iload_n 1, 1, 0, 0, 0), (123, .iaload, 1, 0, 0, 0), (124, .iload_n 3, 1, 0, 0, 0), (125, .isub, 1, 0, 0, 0), (126, .invokevirtual 61, 3, 154, 0, 0), (129, .ireturn, 1, 0, 0, 0)]
/-- LastAskedModel.die(I)I -/
def xc_264 : List xCe := [(0, .aload_n 0, 1, 0, 0, 0), (1, .iconst 0, 1, 0, 0, 0), (2, .putfield 51, 3, 900, 0, 0), (5, .aload_n 0, 1, 0, 0, 0), (6, .iload_n 1, 1, 0, 0, 0), (7, .invokevirtual 329, 3, 203, 0, 0), (10, .istore_n 2, 1, 0, 0, 0), (11, .iload_n 2, 1, 0, 0, 0), (12, .ifCond .le 9, 3, 21, 0, 0), (15, .aload_n 0, 1, 0, 0, 0), (16, .iload_n 2, 1, 0, 0, 0), (17, .invokevirtual 57, 3, 151, 0, 0), (20, .ireturn, 1, 0, 0, 0), (21, .aload_n 0, 1, 0, 0, 0), (22, .invokevirtual 457, 3, 261, 0, 0), (25, .aload_n 0, 1, 0, 0, 0), (26, .invokevirtual 315, 3, 188, 0, 0), (29, .aload_n 0, 1, 0, 0, 0), (30, .iload_n 1, 1, 0, 0, 0), (31, .invokevirtual 300, 3, 192, 0, 0), (34, .istore_n 3, 1, 0, 0, 0), (35, .aload_n 0, 1, 0, 0, 0), (36, .iconst 1, 1, 0, 1, 0), (37, .iload_n 1, 1, 0, 0, 0), (38, .ishl, 1, 0, 0, 0), (39, .iconst 0, 1, 0, 0, 0), (40, .invokevirtual 438, 3, 196, 0, 0), (43, .aload_n 0, 1, 0, 0, 0), (44, .invokevirtual 460, 3, 262, 0, 0), (47, .aload_n 0, 1, 0, 0, 0), (48, .iload_n 3, 1, 0, 0, 0), (49, .invokevirtual 61, 3, 154, 0, 0), (52, .ireturn, 1, 0, 0, 0)]
/-- LastAskedModel.night()I -/
def xc_265 : List xCe := [(0, .aload_n 0, 1, 0, 0, 0), (1, .iconst 0, 1, 0, 0, 0), (2, .putfield 51, 3, 900, 0, 0), (5, .aload_n 0, 1, 0, 0, 0), (6, .getfield 280, 3, 903, 0, 0), (9, .ifnonnull 9, 3, 18, 0, 0), (12, .aload_n 0, 1, 0, 0, 0), (13, .iconst 1, 1, 0, 1, 0), (14, .invokevirtual 57, 3, 151, 0, 0), (17, .ireturn, 1, 0, 0, 0), (18, .aload_n 0, 1, 0, 0, 0), (19, .getfield 17, 3, 916, 0, 0), (22, .bipush 45, 2, 0, 45, 0), (24, .iaload, 1, 0, 0, 0), (25, .sipush 999, 3, 0, 999, 0), (28, .if_icmp .ne 9, 3, 37, 0, 0), (31, .aload_n 0, 1, 0, 0, 0), (32, .iconst 3, 1, 0, 3, 0), (33, .invokevirtual 57, 3, 151, 0, 0), (36, .ireturn, 1, 0, 0, 0), (37, .aload_n 0, 1, 0, 0, 0), (38, .invokevirtual 457, 3, 261, 0, 0), (41, .aload_n 0, 1, 0, 0, 0), (42, .invokevirtual 315, 3, 188, 0, 0), (45, .aload_n 0, 1, 0, 0, 0), (46, .iconst 1, 1, 0, 1, 0), (47, .invokevirtual 445, 3, 255, 0, 0), (50, .istore_n 1, 1, 0, 0, 0), (51, .aload_n 0, 1, 0, 0, 0), (52, .invokevirtual 460, 3, 262, 0, 0), (55, .aload_n 0, 1, 0, 0, 0), (56, .iload_n 1, 1, 0, 0, 0), (57, .invokevirtual 61, 3, 154, 0, 0), (60, .ireturn, 1, 0, 0, 0)]
/-- LastAskedModel.seed(I)Z -/
def xc_266 : List xCe := [(0, .aload_n 0, 1, 0, 0, 0), (1, .iconst 0, 1, 0, 0, 0), (2, .putfield 51, 3, 900, 0, 0), (5, .aload_n 0, 1, 0, 0, 0), (6, .getfield 280, 3, 903, 0, 0), (9, .ifnonnull 9, 3, 18, 0, 0), (12, .aload_n 0, 1, 0, 0, 0), (13, .iconst 1, 1, 0, 1, 0), (14, .invokevirtual 463, 3, 153, 0, 0), (17, .ireturn, 1, 0, 0, 0), (18, .iload_n 1, 1, 0, 0, 0), (19, .iconst 0, 1, 0, 0, 0), (20, .ldc_w 449, 3, 0, 65536, 0), (23, .invokestatic 130, 3, 156, 0, 0), (26, .ifCond .ne 9, 3, 35, 0, 0), (29, .aload_n 0, 1, 0, 0, 0), (30, .iconst 2, 1, 0, 2, 0), (31, .invokevirtual 463, 3, 153, 0, 0), (34, .ireturn, 1, 0, 0, 0), (35, .aload_n 0, 1, 0, 0, 0), (36, .getfield 17, 3, 916, 0, 0), (39, .bipush 46, 2, 0, 46, 0), (41, .iload_n 1, 1, 0, 0, 0), (42, .iastore, 1, 0, 0, 0), (43, .aload_n 0, 1, 0, 0, 0), (44, .invokevirtual 466, 3, 155, 0, 0), (47, .ireturn, 1, 0, 0, 0)]
/-- LastAskedModel.undo()Z -/
def xc_267 : List xCe := [(0, .aload_n 0, 1, 0, 0, 0), (1, .iconst 0, 1, 0, 0, 0), (2, .putfield 51, 3, 900, 0, 0), (5, .aload_n 0, 1, 0, 0, 0), (6, .getfield 280, 3, 903, 0, 0), (9, .ifnull 10, 3, 19, 0, 0), (12, .aload_n 0, 1, 0, 0, 0), (13, .getfield 285, 3, 920, 0, 0), (16, .ifCond .ne 10, 3, 26, 0, 0), (19, .aload_n 0, 1, 0, 0, 0), (20, .bipush 6, 2, 0, 6, 0), (22, .invokevirtual 463, 3, 153, 0, 0), (25, .ireturn, 1, 0, 0, 0), (26, .aload_n 0, 1, 0, 0, 0), (27, .dup, 1, 0, 0, 0), (28, .getfield 285, 3, 920, 0, 0), (31, .iconst 1, 1, 0, 1, 0), (32, .isub, 1, 0, 0, 0), (33, .putfield 285, 3, 920, 0, 0), (36, .iconst 0, 1, 0, 0, 0), (37, .istore_n 1, 1, 0, 0, 0), (38, .iload_n 1, 1, 0, 0, 0), (39, .bipush 47, 2, 0, 47, 0), (41, .if_icmp .ge 29, 3, 70, 0, 0), (44, .aload_n 0, 1, 0, 0, 0), (45, .getfield 17, 3, 916, 0, 0), (48, .iload_n 1, 1, 0, 0, 0), (49, .aload_n 0, 1, 0, 0, 0), (50, .getfield 24, 3, 918, 0, 0), (53, .bipush 47, 2, 0, 47, 0), (55, .aload_n 0, 1, 0, 0, 0), (56, .getfield 285, 3, 920, 0, 0), (59, .imul, 1, 0, 0, 0), (60, .iload_n 1, 1, 0, 0, 0), (61, .iadd, 1, 0, 0, 0), (62, .iaload, 1, 0, 0, 0), (63, .iastore, 1, 0, 0, 0), (64, .iinc 1 1, 3, 0, 1, 0), (67, .goto (-29), 3, 38, 0, 0), (70, .aload_n 0, 1, 0, 0, 0), (71, .invokevirtual 466, 3, 155, 0, 0), (74, .ireturn, 1, 0, 0, 0)]
/-- LastAskedModel.image()I -/
def xc_268 : List xCe := [(0, .aload_n 0, 1, 0, 0, 0), (1, .iconst 0, 1, 0, 0, 0), (2, .putfield 51, 3, 900, 0, 0), (5, .aload_n 0, 1, 0, 0, 0), (6, .getfield 280, 3, 903, 0, 0), (9, .ifnonnull 9, 3, 18, 0, 0), (12, .aload_n 0, 1, 0, 0, 0), (13, .iconst 1, 1, 0, 1, 0), (14, .invokevirtual 57, 3, 151, 0, 0), (17, .ireturn, 1, 0, 0, 0), (18, .aload_n 0, 1, 0, 0, 0), (19, .getfield 288, 3, 921, 0, 0), (22, .iconst 3, 1, 0, 3, 0), (23, .if_icmp .ne 9, 3, 32, 0, 0), (26, .aload_n 0, 1, 0, 0, 0), (27, .iconst 3, 1, 0, 3, 0), (28, .invokevirtual 57, 3, 151, 0, 0), (31, .ireturn, 1, 0, 0, 0), (32, .iconst 0, 1, 0, 0, 0), (33, .istore_n 1, 1, 0, 0, 0), (34, .iload_n 1, 1, 0, 0, 0), (35, .bipush 47, 2, 0, 47, 0), (37, .if_icmp .ge 29, 3, 66, 0, 0), (40, .aload_n 0, 1, 0, 0, 0), (41, .getfield 27, 3, 919, 0, 0), (44, .bipush 47, 2, 0, 47, 0), (46, .aload_n 0, 1, 0, 0, 0), (47, .getfield 288, 3, 921, 0, 0), (50, .imul, 1, 0, 0, 0), (51, .iload_n 1, 1, 0, 0, 0), (52, .iadd, 1, 0, 0, 0), (53, .aload_n 0, 1, 0, 0, 0), (54, .getfield 17, 3, 916, 0, 0), (57, .iload_n 1, 1, 0, 0, 0), (58, .iaload, 1, 0, 0, 0), (59, .iastore, 1, 0, 0, 0), (60, .iinc 1 1, 3, 0, 1, 0), (63, .goto (-29), 3, 34, 0, 0), (66, .aload_n 0, 1, 0, 0, 0), (67, .dup, 1, 0, 0, 0), (68, .getfield 288, 3, 921, 0, 0), (71, .iconst 1, 1, 0, 1, 0), (72, .iadd, 1, 0, 0, 0), (73, .putfield 288, 3, 921, 0, 0), (76, .aload_n 0, 1, 0, 0, 0), (77, .aload_n 0, 1, 0, 0, 0), (78, .getfield 288, 3, 921, 0, 0), (81, .iconst 1, 1, 0, 1, 0), (82, .isub, 1, 0, 0, 0), (83, .invokevirtual 61, 3, 154, 0, 0), (86, .ireturn, 1, 0, 0, 0)]
/-- LastAskedModel.back(I)Z -/
def xc_269 : List xCe := [(0, .aload_n 0, 1, 0, 0, 0), (1, .iconst 0, 1, 0, 0, 0), (2, .putfield 51, 3, 900, 0, 0), (5, .aload_n 0, 1, 0, 0, 0), (6, .getfield 280, 3, 903, 0, 0), (9, .ifnull 15, 3, 24, 0, 0), (12, .iload_n 1, 1, 0, 0, 0), (13, .ifCond .lt 11, 3, 24, 0, 0), (16, .iload_n 1, 1, 0, 0, 0), (17, .aload_n 0, 1, 0, 0, 0), (18, .getfield 288, 3, 921, 0, 0), (21, .if_icmp .lt 9, 3, 30, 0, 0), (24, .aload_n 0, 1, 0, 0, 0), (25, .iconst 1, 1, 0, 1, 0), (26, .invokevirtual 463, 3, 153, 0, 0), (29, .ireturn, 1, 0, 0, 0), (30, .iconst 0, 1, 0, 0, 0), (31, .istore_n 2, 1, 0, 0, 0), (32, .iload_n 2, 1, 0, 0, 0), (33, .bipush 47, 2, 0, 47, 0), (35, .if_icmp .ge 26, 3, 61, 0, 0), (38, .aload_n 0, 1, 0, 0, 0), (39, .getfield 17, 3, 916, 0, 0), (42, .iload_n 2, 1, 0, 0, 0), (43, .aload_n 0, 1, 0, 0, 0), (44, .getfield 27, 3, 919, 0, 0), (47, .bipush 47, 2, 0, 47, 0), (49, .iload_n 1, 1, 0, 0, 0), (50, .imul, 1, 0, 0, 0), (51, .iload_n 2, 1, 0, 0, 0), (52, .iadd, 1, 0, 0, 0), (53, .iaload, 1, 0, 0, 0), (54, .iastore, 1, 0, 0, 0), (55, .iinc 2 1, 3, 0, 1, 0), (58, .goto (-26), 3, 32, 0, 0), (61, .aload_n 0, 1, 0, 0, 0), (62, .iconst 0, 1, 0, 0, 0), (63, .putfield 285, 3, 920, 0, 0), (66, .aload_n 0, 1, 0, 0, 0), (67, .invokevirtual 466, 3, 155, 0, 0), (70, .ireturn, 1, 0, 0, 0)]
/-- LastAskedModel.led(I)I -/
def xc_270 : List xCe := [(0, .aload_n 0, 1, 0, 0, 0), (1, .iconst 0, 1, 0, 0, 0), (2, .putfield 51, 3, 900, 0, 0), (5, .iconst 0, 1, 0, 0, 0), (6, .istore_n 2, 1, 0, 0, 0), (7, .aload_n 0, 1, 0, 0, 0), (8, .getfield 280, 3, 903, 0, 0), (11, .ifnull 7, 3, 18, 0, 0), (14, .aload_n 0, 1, 0, 0, 0), (15, .invokevirtual 315, 3, 188, 0, 0), (18, .iconst 0, 1, 0, 0, 0), (19, .istore_n 3, 1, 0, 0, 0), (20, .aload_n 0, 1, 0, 0, 0), (21, .getfield 280, 3, 903, 0, 0), (24, .ifnull 51, 3, 75, 0, 0), (27, .iload_n 3, 1, 0, 0, 0), (28, .aload_n 0, 1, 0, 0, 0), (29, .getfield 280, 3, 903, 0, 0), (32, .getfield 170, 3, 802, 0, 0), (35, .if_icmp .ge 40, 3, 75, 0, 0), (38, .aload_n 0, 1, 0, 0, 0), (39, .iload_n 3, 1, 0, 0, 0), (40, .invokevirtual 294, 3, 190, 0, 0), (43, .ifCond .eq 26, 3, 69, 0, 0), (46, .aload_n 0, 1, 0, 0, 0), (47, .iload_n 3, 1, 0, 0, 0), (48, .invokevirtual 300, 3, 192, 0, 0), (51, .bipush (-2), 2, 0, (-2), 0), (53, .if_icmp .eq 6, 3, 59, 0, 0), (56, .goto 13, 3, 69, 0, 0), (59, .iload_n 2, 1, 0, 0, 0), (60, .iload_n 1, 1, 0, 0, 0), (61, .if_icmp .ne 5, 3, 66, 0, 0), (64, .iload_n 3, 1, 0, 0, 0), (65, .ireturn, 1, 0, 0, 0), (66, .iinc 2 1, 3, 0, 1, 0), (69, .iinc 3 1, 3, 0, 1, 0), (72, .goto (-52), 3, 20, 0, 0), (75, .aload_n 0, 1, 0, 0, 0), (76, .iconst 1, 1, 0, 1, 0), (77, .putfield 51, 3, 900, 0, 0), (80, .iconst 0, 1, 0, 0, 0), (81, .ireturn, 1, 0, 0, 0)]
/-- LastAskedModel.size(I)I -/
def xc_271 : List xCe := [(0, .aload_n 0, 1, 0, 0, 0), (1, .iconst 0, 1, 0, 0, 0), (2, .putfield 51, 3, 900, 0, 0), (5, .iload_n 1, 1, 0, 0, 0), (6, .bipush 12, 2, 0, 12, 0), (8, .if_icmp .ne 8, 3, 16, 0, 0), (11, .aload_n 0, 1, 0, 0, 0), (12, .getfield 273, 3, 906, 0, 0), (15, .ireturn, 1, 0, 0, 0), (16, .iload_n 1, 1, 0, 0, 0), (17, .iconst 0, 1, 0, 0, 0), (18, .bipush 11, 2, 0, 11, 0), (20, .invokestatic 130, 3, 156, 0, 0), (23, .ifCond .ne 5, 3, 28, 0, 0), (26, .iconst (-1), 1, 0, (-1), 0), (27, .ireturn, 1, 0, 0, 0), (28, .aload_n 0, 1, 0, 0, 0), (29, .getfield 280, 3, 903, 0, 0), (32, .ifnonnull 5, 3, 37, 0, 0), (35, .iconst 0, 1, 0, 0, 0), (36, .ireturn, 1, 0, 0, 0), (37, .iload_n 1, 1, 0, 0, 0), (38, .tableswitch 146 0 10 #[58, 66, 74, 82, 90, 98, 106, 114, 125, 133, 141], 58, 0, 0, 0), (96, .aload_n 0, 1, 0, 0, 0), (97, .getfield 17, 3, 916, 0, 0), (100, .bipush 44, 2, 0, 44, 0), (102, .iaload, 1, 0, 0, 0), (103, .ireturn, 1, 0, 0, 0), (104, .aload_n 0, 1, 0, 0, 0), (105, .getfield 280, 3, 903, 0, 0), (108, .getfield 198, 3, 801, 0, 0), (111, .ireturn, 1, 0, 0, 0), (112, .aload_n 0, 1, 0, 0, 0), (113, .getfield 280, 3, 903, 0, 0), (116, .getfield 170, 3, 802, 0, 0), (119, .ireturn, 1, 0, 0, 0), (120, .aload_n 0, 1, 0, 0, 0), (121, .getfield 280, 3, 903, 0, 0), (124, .getfield 227, 3, 803, 0, 0), (127, .ireturn, 1, 0, 0, 0), (128, .aload_n 0, 1, 0, 0, 0), (129, .getfield 280, 3, 903, 0, 0), (132, .getfield 247, 3, 804, 0, 0), (135, .ireturn, 1, 0, 0, 0), (136, .aload_n 0, 1, 0, 0, 0), (137, .getfield 280, 3, 903, 0, 0), (140, .getfield 255, 3, 805, 0, 0), (143, .ireturn, 1, 0, 0, 0), (144, .aload_n 0, 1, 0, 0, 0), (145, .getfield 280, 3, 903, 0, 0), (148, .getfield 270, 3, 806, 0, 0), (151, .ireturn, 1, 0, 0, 0), (152, .aload_n 0, 1, 0, 0, 0), (153, .getfield 17, 3, 916, 0, 0), (156, .bipush 42, 2, 0, 42, 0), (158, .iaload, 1, 0, 0, 0), (159, .invokestatic 341, 3, 158, 0, 0), (162, .ireturn, 1, 0, 0, 0), (163, .aload_n 0, 1, 0, 0, 0), (164, .getfield 17, 3, 916, 0, 0), (167, .bipush 45, 2, 0, 45, 0), (169, .iaload, 1, 0, 0, 0), (170, .ireturn, 1, 0, 0, 0), (171, .aload_n 0, 1, 0, 0, 0), (172, .getfield 17, 3, 916, 0, 0), (175, .bipush 46, 2, 0, 46, 0), (177, .iaload, 1, 0, 0, 0), (178, .ireturn, 1, 0, 0, 0), (179, .aload_n 0, 1, 0, 0, 0), (180, .getfield 285, 3, 920, 0, 0), (183, .ireturn, 1, 0, 0, 0), (184, .aload_n 0, 1, 0, 0, 0), (185, .getfield 288, 3, 921, 0, 0), (188, .ireturn, 1, 0, 0, 0)]
/-- LastAskedModel.trouble()I -/
def xc_272 : List xCe := [(0, .aload_n 0, 1, 0, 0, 0), (1, .iconst 0, 1, 0, 0, 0), (2, .putfield 51, 3, 900, 0, 0), (5, .aload_n 0, 1, 0, 0, 0), (6, .getfield 54, 3, 901, 0, 0), (9, .ireturn, 1, 0, 0, 0)]
/-- java/lang/Integer.bitCount(I)I -/
def xc_273 : List xCe := [(0, .iload_n 0, 1, 0, 0, 0), (1, .iload_n 0, 1, 0, 0, 0), (2, .iconst 1, 1, 0, 1, 0), (3, .iushr, 1, 0, 0, 0), (4, .ldc_w 265, 3, 0, 1431655765, 0), (7, .iand, 1, 0, 0, 0), (8, .isub, 1, 0, 0, 0), (9, .istore_n 0, 1, 0, 0, 0), (10, .iload_n 0, 1, 0, 0, 0), (11, .ldc_w 266, 3, 0, 858993459, 0), (14, .iand, 1, 0, 0, 0), (15, .iload_n 0, 1, 0, 0, 0), (16, .iconst 2, 1, 0, 2, 0), (17, .iushr, 1, 0, 0, 0), (18, .ldc_w 266, 3, 0, 858993459, 0), (21, .iand, 1, 0, 0, 0), (22, .iadd, 1, 0, 0, 0), (23, .istore_n 0, 1, 0, 0, 0), (24, .iload_n 0, 1, 0, 0, 0), (25, .iload_n 0, 1, 0, 0, 0), (26, .iconst 4, 1, 0, 4, 0), (27, .iushr, 1, 0, 0, 0), (28, .iadd, 1, 0, 0, 0), (29, .ldc_w 267, 3, 0, 252645135, 0), (32, .iand, 1, 0, 0, 0), (33, .istore_n 0, 1, 0, 0, 0), (34, .iload_n 0, 1, 0, 0, 0), (35, .iload_n 0, 1, 0, 0, 0), (36, .bipush 8, 2, 0, 8, 0), (38, .iushr, 1, 0, 0, 0), (39, .iadd, 1, 0, 0, 0), (40, .istore_n 0, 1, 0, 0, 0), (41, .iload_n 0, 1, 0, 0, 0), (42, .iload_n 0, 1, 0, 0, 0), (43, .bipush 16, 2, 0, 16, 0), (45, .iushr, 1, 0, 0, 0), (46, .iadd, 1, 0, 0, 0), (47, .istore_n 0, 1, 0, 0, 0), (48, .iload_n 0, 1, 0, 0, 0), (49, .bipush 63, 2, 0, 63, 0), (51, .iand, 1, 0, 0, 0), (52, .ireturn, 1, 0, 0, 0)]
def xcs_0 : List (List xCe) := [xc_0, xc_1, xc_2, xc_3, xc_4, xc_5, xc_6, xc_7, xc_8, xc_9, xc_10, xc_11, xc_12, xc_13, xc_14, xc_15, xc_16, xc_17, xc_18, xc_19, xc_20, xc_21, xc_22, xc_23, xc_24, xc_25, xc_26, xc_27, xc_28, xc_29, xc_30, xc_31, xc_32, xc_33, xc_34, xc_35, xc_36, xc_37, xc_38, xc_39]
def xcs_1 : List (List xCe) := [xc_40, xc_41, xc_42, xc_43, xc_44, xc_45, xc_46, xc_47, xc_48, xc_49, xc_50, xc_51, xc_52, xc_53, xc_54, xc_55, xc_56, xc_57, xc_58, xc_59, xc_60, xc_61, xc_62, xc_63, xc_64, xc_65, xc_66, xc_67, xc_68, xc_69, xc_70, xc_71, xc_72, xc_73, xc_74, xc_75, xc_76, xc_77, xc_78, xc_79]
def xcs_2 : List (List xCe) := [xc_80, xc_81, xc_82, xc_83, xc_84, xc_85, xc_86, xc_87, xc_88, xc_89, xc_90, xc_91, xc_92, xc_93, xc_94, xc_95, xc_96, xc_97, xc_98, xc_99, xc_100, xc_101, xc_102, xc_103, xc_104, xc_105, xc_106, xc_107, xc_108, xc_109, xc_110, xc_111, xc_112, xc_113, xc_114, xc_115, xc_116, xc_117, xc_118, xc_119]
def xcs_3 : List (List xCe) := [xc_120, xc_121, xc_122, xc_123, xc_124, xc_125, xc_126, xc_127, xc_128, xc_129, xc_130, xc_131, xc_132, xc_133, xc_134, xc_135, xc_136, xc_137, xc_138, xc_139, xc_140, xc_141, xc_142, xc_143, xc_144, xc_145, xc_146, xc_147, xc_148, xc_149, xc_150, xc_151, xc_152, xc_153, xc_154, xc_155, xc_156, xc_157, xc_158, xc_159]
def xcs_4 : List (List xCe) := [xc_160, xc_161, xc_162, xc_163, xc_164, xc_165, xc_166, xc_167, xc_168, xc_169, xc_170, xc_171, xc_172, xc_173, xc_174, xc_175, xc_176, xc_177, xc_178, xc_179, xc_180, xc_181, xc_182, xc_183, xc_184, xc_185, xc_186, xc_187, xc_188, xc_189, xc_190, xc_191, xc_192, xc_193, xc_194, xc_195, xc_196, xc_197, xc_198, xc_199]
def xcs_5 : List (List xCe) := [xc_200, xc_201, xc_202, xc_203, xc_204, xc_205, xc_206, xc_207, xc_208, xc_209, xc_210, xc_211, xc_212, xc_213, xc_214, xc_215, xc_216, xc_217, xc_218, xc_219, xc_220, xc_221, xc_222, xc_223, xc_224, xc_225, xc_226, xc_227, xc_228, xc_229, xc_230, xc_231, xc_232, xc_233, xc_234, xc_235, xc_236, xc_237, xc_238, xc_239]
def xcs_6 : List (List xCe) := [xc_240, xc_241, xc_242, xc_243, xc_244, xc_245, xc_246, xc_247, xc_248, xc_249, xc_250, xc_251, xc_252, xc_253, xc_254, xc_255, xc_256, xc_257, xc_258, xc_259, xc_260, xc_261, xc_262, xc_263, xc_264, xc_265, xc_266, xc_267, xc_268, xc_269, xc_270, xc_271, xc_272, xc_273]
def xcs : List (List xCe) := xcs_0 ++ (xcs_1 ++ (xcs_2 ++ (xcs_3 ++ (xcs_4 ++ (xcs_5 ++ (xcs_6))))))
def xCal : List (Bool × Bool × Nat) := [(false, true, 0), (false, false, 0), (false, false, 0), (false, false, 0), (false, false, 0), (false, false, 0), (false, true, 1), (false, false, 1), (false, false, 1), (false, false, 1), (false, false, 1), (false, false, 1), (false, false, 1), (false, false, 1), (false, false, 1), (false, false, 1), (false, true, 2), (false, false, 2), (false, false, 2), (false, false, 2), (false, false, 2), (false, false, 2), (false, true, 3), (false, false, 3), (false, false, 3), (false, false, 3), (false, false, 3), (false, false, 3), (false, false, 3), (false, false, 3), (false, false, 3), (false, false, 3), (false, false, 3), (false, false, 3), (false, false, 3), (false, false, 3), (false, false, 3), (false, false, 3), (false, false, 3), (false, false, 3), (false, false, 3), (false, false, 3), (false, false, 3), (false, false, 3), (false, false, 3), (false, true, 4), (false, false, 4), (false, false, 4), (false, false, 4), (false, false, 4), (false, false, 4), (false, false, 4), (false, true, 5), (false, false, 5), (false, false, 5), (false, false, 5), (false, true, 6), (false, false, 6), (true, false, 6), (false, false, 6), (false, false, 6), (false, false, 6), (false, false, 6), (false, true, 7), (false, false, 7), (false, false, 7), (false, false, 7), (false, false, 7), (false, false, 7), (false, false, 7), (false, false, 7), (false, false, 7), (false, false, 7), (false, false, 7), (false, false, 7), (false, false, 7), (false, false, 7), (false, false, 7), (false, false, 7), (false, false, 7), (false, false, 7), (false, false, 7), (false, false, 7), (false, false, 7), (false, false, 7), (false, false, 7), (false, false, 7), (false, false, 7), (false, false, 7), (false, false, 7), (false, false, 7), (false, false, 7), (false, false, 7), (false, false, 7), (false, false, 7), (false, false, 7), (false, false, 7), (false, false, 7), (false, false, 7), (false, false, 7), (false, false, 7), (false, false, 7), (false, false, 7), (false, false, 7), (false, false, 7), (false, false, 7), (false, false, 7), (false, false, 7), (false, false, 7), (false, false, 7), (false, false, 7), (false, false, 7), (false, false, 7), (false, false, 7), (false, false, 7), (false, false, 7), (false, false, 7), (false, false, 7), (false, false, 7), (false, false, 7), (false, false, 7), (false, false, 7), (false, false, 7), (false, false, 7), (true, false, 7), (true, false, 7), (false, false, 7), (false, false, 7), (false, false, 7), (false, false, 7), (false, false, 7), (false, false, 7), (false, false, 7), (false, false, 7), (false, false, 7), (true, false, 7), (true, false, 7), (false, false, 7), (true, false, 7), (false, false, 7), (false, false, 7), (false, false, 7), (true, false, 7), (true, false, 7), (false, false, 7), (false, false, 7), (false, true, 8), (false, false, 8), (false, false, 8), (false, true, 9), (false, false, 9), (false, false, 9), (false, false, 9), (false, false, 9), (false, false, 9), (false, false, 9), (true, false, 9), (true, false, 9), (true, false, 9), (true, false, 9), (false, false, 9), (false, false, 9), (true, false, 9), (true, false, 9), (true, false, 9), (false, false, 9), (false, false, 9), (false, false, 9), (false, false, 9), (false, false, 9), (false, false, 9), (false, false, 9), (false, false, 9), (false, false, 9), (false, false, 9), (false, false, 9), (false, false, 9), (false, false, 9), (false, false, 9), (false, false, 9), (false, false, 9), (false, false, 9), (false, false, 9), (false, false, 9), (false, false, 9), (false, false, 9), (false, false, 9), (false, false, 9), (false, false, 9), (false, false, 9), (false, false, 9), (false, false, 9), (false, false, 9), (false, false, 9), (false, false, 9), (false, false, 9), (false, false, 9), (false, false, 9), (false, false, 9), (false, false, 9), (false, false, 9), (false, false, 9), (false, false, 9), (false, false, 9), (false, false, 9), (false, false, 9), (false, false, 9), (false, false, 9), (false, false, 9), (false, false, 9), (false, false, 9), (false, false, 9), (false, false, 9), (false, false, 9), (false, false, 9), (false, false, 9), (false, false, 9), (false, false, 9), (false, false, 9), (false, false, 9), (false, false, 9), (false, false, 9), (false, false, 9), (false, false, 9), (false, false, 9), (false, false, 9), (false, false, 9), (false, false, 9), (false, false, 9), (false, false, 9), (false, false, 9), (false, false, 9), (false, false, 9), (false, false, 9), (false, false, 9), (false, false, 9), (false, false, 9), (false, false, 9), (false, false, 9), (false, false, 9), (false, false, 9), (false, false, 9), (false, false, 9), (false, false, 9), (false, false, 9), (false, false, 9), (false, false, 9), (false, false, 9), (true, false, 9), (true, false, 9), (false, false, 9), (false, false, 9), (true, false, 9), (false, false, 9), (false, false, 9), (false, false, 9), (false, false, 9), (false, false, 9), (false, false, 9), (false, false, 9), (false, false, 9), (false, false, 9), (false, false, 9), (false, false, 9), (false, false, 9), (false, false, 9), (false, false, 9), (false, false, 9), (false, false, 9), (false, false, 9), (false, false, 9), (false, false, 9), (false, false, 9), (true, false, 10)]
set_option maxRecDepth 100000 in
theorem x_calL : (List.range 274).all (fun k => decide (xCal.getD k (false, false, 0) = ((xE k).2.2.2.2.2.2, decide ((xE k).1.name = "<init>"), (xE k).2.2.2.2.1))) = true := by decide +kernel
theorem x_cal {k : Nat} (h : k < 274) : xCal.getD k (false, false, 0) = ((xE k).2.2.2.2.2.2, decide ((xE k).1.name = "<init>"), (xE k).2.2.2.2.1) := of_decide_eq_true (List.all_eq_true.mp x_calL k (List.mem_range.mpr h))
end
section
/-! the small machine's steps and runs over the linked code -/
def xlen (i : Instr) : Nat := match i with
  | .bipush _ => 2
  | .sipush _ => 3
  | .ldc _ => 2
  | .ldc_w _ => 3
  | .ldc2_w _ => 3
  | .iload _ => 2
  | .lload _ => 2
  | .aload _ => 2
  | .istore _ => 2
  | .lstore _ => 2
  | .astore _ => 2
  | .iinc _ _ => 3
  | .ifCond _ _ => 3
  | .if_icmp _ _ => 3
  | .ifnull _ => 3
  | .ifnonnull _ => 3
  | .goto _ => 3
  | .getfield _ => 3
  | .putfield _ => 3
  | .invokevirtual _ => 3
  | .invokespecial _ => 3
  | .invokestatic _ => 3
  | .new _ => 3
  | .newarray _ => 2
  | .anewarray _ => 3
  | .tableswitch _ _ _ _ => 0
  | _ => 1
/-- what a linked instruction says is what the class files say; o: its class, ini: whether its method is a constructor -/
def xm3 (L : List (Nat × Nat × Nat)) (o ix rn : Nat) : Bool := L.any (fun e => Nat.beq e.1 o && Nat.beq e.2.1 ix && Nat.beq e.2.2 rn)
def xm2 (L : List (Nat × Nat)) (o ix : Nat) : Bool := L.any (fun e => Nat.beq e.1 o && Nat.beq e.2 ix)
theorem xm3_in {L : List (Nat × Nat × Nat)} {o ix rn : Nat} (h : xm3 L o ix rn = true) : (o, ix, rn) ∈ L := by
  obtain ⟨e, he, h2⟩ := List.any_eq_true.mp h
  simp only [Bool.and_eq_true, Nat.beq_eq] at h2
  obtain ⟨⟨h3, h4⟩, h5⟩ := h2
  rw [← h3, ← h4, ← h5]
  exact he
theorem xm2_in {L : List (Nat × Nat)} {o ix : Nat} (h : xm2 L o ix = true) : (o, ix) ∈ L := by
  obtain ⟨e, he, h2⟩ := List.any_eq_true.mp h
  simp only [Bool.and_eq_true, Nat.beq_eq] at h2
  rw [← h2.1, ← h2.2]
  exact he
def xokI (o : Nat) (ini : Bool) (pc : Nat) (i : Instr) (rn : Nat) (ri : Int32) (rl : Int64) : Bool := match i with
  | .iconst n => decide (Int32.ofInt n = ri)
  | .bipush n => decide ((Int8.ofInt n).toInt32 = ri)
  | .sipush n => decide ((Int16.ofInt n).toInt32 = ri)
  | .lconst n => decide (Int64.ofNat n.val = rl)
  | .ldc ix => if rn < 1000 then decide ((o, ix, ri) ∈ xKI) else xm3 xKS o ix (rn - 1000)
  | .ldc_w ix => if rn < 1000 then decide ((o, ix, ri) ∈ xKI) else xm3 xKS o ix (rn - 1000)
  | .ldc2_w ix => decide ((o, ix, rl) ∈ xKL)
  | .iinc _ n => decide (Int32.ofInt n = ri)
  | .ifCond _ off => decide ((pc : Int) + off = (rn : Int))
  | .if_icmp _ off => decide ((pc : Int) + off = (rn : Int))
  | .goto off => decide ((pc : Int) + off = (rn : Int))
  | .ifnull off => decide ((pc : Int) + off = (rn : Int))
  | .ifnonnull off => decide ((pc : Int) + off = (rn : Int))
  | .getfield ix => Nat.blt (rn / 100) 10 && Nat.blt (rn % 100) (xNF (rn / 100)) && (xm3 xFL o ix rn || xm3 xFN o ix rn)
  | .putfield ix => Nat.blt (rn / 100) 10 && Nat.blt (rn % 100) (xNF (rn / 100)) && ((!((xkC (rn / 100)).2.1 (rn % 100)).2.2.2 && (xm3 xFL o ix rn || xm3 xFN o ix rn)) || (((xkC (rn / 100)).2.1 (rn % 100)).2.2.2 && ini && Nat.beq (rn / 100) o && xm3 xFL o ix rn))
  | .invokevirtual ix => Nat.blt rn 274 && !(xCal.getD rn (false, false, 0)).1 && !(xCal.getD rn (false, false, 0)).2.1 && Nat.blt (xCal.getD rn (false, false, 0)).2.2 10 && (xm3 xVL o ix rn || xm3 xVN o ix rn)
  | .invokestatic ix => bif Nat.beq rn 9001 then xm2 xMI o ix else bif Nat.beq rn 9002 then xm2 xMA o ix else bif Nat.beq rn 9003 then xm2 xAL o ix else
      Nat.blt rn 274 && (xCal.getD rn (false, false, 0)).1 && (xm3 xVL o ix rn || xm3 xVN o ix rn)
  | .invokespecial ix => bif Nat.beq rn 9000 then xm2 xOL o ix else
      Nat.blt rn 274 && !(xCal.getD rn (false, false, 0)).1 && (xCal.getD rn (false, false, 0)).2.1 && (xm3 xVL o ix rn || xm3 xVN o ix rn)
  | .new ix => Nat.blt rn 10 && xm3 xCK o ix rn
  | .newarray t => match t with
    | .byte => Nat.beq rn 10
    | .int => Nat.beq rn 11
    | .long => Nat.beq rn 12
    | _ => false
  | .anewarray ix => Nat.beq rn 13 && xm3 xCK o ix 4
  | .tableswitch df _ _ offs => decide (0 ≤ (pc : Int) + df) && offs.toList.all (fun x => decide (0 ≤ (pc : Int) + x))
  | _ => true
def xokE (m : xMe) (e : xCe) : Bool := decide (decode m.2.1 e.1 = .ok (e.2.1, e.2.2.1)) && (xlen e.2.1 == 0 || xlen e.2.1 == e.2.2.1) && xokI m.2.2.2.2.1 (decide (m.1.name = "<init>")) e.1 e.2.1 e.2.2.2.1 e.2.2.2.2.1 e.2.2.2.2.2
def xfind : List xCe → Nat → Option xCe
  | [], _ => none
  | e :: r, pc => bif Nat.beq e.1 pc then some e else xfind r pc
def xcode (k pc : Nat) : Option xCe := xfind (xcs.getD k []) pc
end
section
/-! the linked code is the class files' code -/
def xokL : List xMe → List (List xCe) → Bool
  | [], [] => true
  | m :: ms, c :: r => c.all (xokE m) && xokL ms r
  | _, _ => false
theorem xokL_app : ∀ (a : List xMe) (b : List (List xCe)) (a' : List xMe) (b' : List (List xCe)), xokL a b = true → xokL a' b' = true → xokL (a ++ a') (b ++ b') = true
  | [], [], a', b', _, h => h
  | m :: ms, c :: r, a', b', h, h' => by
    simp only [xokL, Bool.and_eq_true, List.cons_append] at h ⊢
    exact ⟨h.1, xokL_app ms r a' b' h.2 h'⟩
  | [], _ :: _, _, _, h, _ => by simp [xokL] at h
  | _ :: _, [], _, _, h, _ => by simp [xokL] at h
theorem xokL_at : ∀ (ms : List xMe) (L : List (List xCe)) (i : Nat) (c : List xCe), xokL ms L = true → L[i]? = some c → ∃ m, ms[i]? = some m ∧ c.all (xokE m) = true
  | [], [], i, c, _, h => by simp at h
  | m :: ms, x :: r, 0, c, h1, h => by
    simp only [xokL, Bool.and_eq_true] at h1
    simp at h
    subst h
    exact ⟨m, rfl, h1.1⟩
  | m :: ms, x :: r, i + 1, c, h1, h => by
    simp only [xokL, Bool.and_eq_true] at h1
    obtain ⟨m', h2, h3⟩ := xokL_at ms r i c h1.2 (by simpa using h)
    exact ⟨m', by simpa using h2, h3⟩
  | [], _ :: _, _, _, h, _ => by simp [xokL] at h
  | _ :: _, [], _, _, h, _ => by simp [xokL] at h
set_option maxRecDepth 100000 in
set_option maxHeartbeats 4000000 in
theorem x_chk0 : xokL xMs_0 xcs_0 = true := by decide +kernel
set_option maxRecDepth 100000 in
set_option maxHeartbeats 4000000 in
theorem x_chk1 : xokL xMs_1 xcs_1 = true := by decide +kernel
set_option maxRecDepth 100000 in
set_option maxHeartbeats 4000000 in
theorem x_chk2 : xokL xMs_2 xcs_2 = true := by decide +kernel
set_option maxRecDepth 100000 in
set_option maxHeartbeats 4000000 in
theorem x_chk3 : xokL xMs_3 xcs_3 = true := by decide +kernel
set_option maxRecDepth 100000 in
set_option maxHeartbeats 4000000 in
theorem x_chk4 : xokL xMs_4 xcs_4 = true := by decide +kernel
set_option maxRecDepth 100000 in
set_option maxHeartbeats 4000000 in
theorem x_chk5 : xokL xMs_5 xcs_5 = true := by decide +kernel
set_option maxRecDepth 100000 in
set_option maxHeartbeats 4000000 in
theorem x_chk6 : xokL xMs_6 xcs_6 = true := by decide +kernel
theorem x_chk : xokL xMs xcs = true := xokL_app _ _ _ _ x_chk0 (xokL_app _ _ _ _ x_chk1 (xokL_app _ _ _ _ x_chk2 (xokL_app _ _ _ _ x_chk3 (xokL_app _ _ _ _ x_chk4 (xokL_app _ _ _ _ x_chk5 (x_chk6))))))
theorem xfind_mem : ∀ (L : List xCe) (pc : Nat) (e : xCe), xfind L pc = some e → e ∈ L ∧ e.1 = pc
  | [], _, _, h => by cases h
  | x :: r, pc, e, h => by
    unfold xfind at h
    cases hb : Nat.beq x.1 pc with
    | true =>
      rw [hb] at h
      cases h
      exact ⟨List.mem_cons_self, Nat.eq_of_beq_eq_true hb⟩
    | false =>
      rw [hb] at h
      have := xfind_mem r pc e h
      exact ⟨List.mem_cons_of_mem _ this.1, this.2⟩
theorem x_code {k pc : Nat} {e : xCe} (h : xcode k pc = some e) : xokE (xE k) e = true ∧ e.1 = pc ∧ k < 274 := by
  obtain ⟨h1, h2⟩ := xfind_mem _ _ _ h
  have hk : xcs[k]? = some (xcs.getD k []) := by
    cases hc : xcs[k]? with
    | none => rw [List.getD_eq_getElem?_getD, hc] at h1; simp at h1
    | some c => rw [List.getD_eq_getElem?_getD, hc]; rfl
  obtain ⟨m, hm, hall⟩ := xokL_at xMs xcs k _ x_chk hk
  have hE : xE k = m := by unfold xE; rw [List.getD_eq_getElem?_getD, hm]; rfl
  refine ⟨?_, h2, ?_⟩
  · rw [hE]
    exact List.all_eq_true.mp hall e h1
  · have := (List.getElem?_eq_some_iff.mp hm).1
    rwa [show xMs.length = 274 by decide +kernel] at this
end
section
/-! THE SMALL MACHINE: a memory of cells by numbers (kind, length, ints, longs, references), a step, a run; and its tie to the machine -/
abbrev xM : Type := (Nat → Nat) × (Nat → Nat) × (Nat → Nat → Int32) × (Nat → Nat → Int64) × (Nat → Nat → Option Nat) × Nat × Nat
def mK (σ : xM) : Nat → Nat := σ.1
def mL (σ : xM) : Nat → Nat := σ.2.1
def mI (σ : xM) : Nat → Nat → Int32 := σ.2.2.1
def mJ (σ : xM) : Nat → Nat → Int64 := σ.2.2.2.1
def mR (σ : xM) : Nat → Nat → Option Nat := σ.2.2.2.2.1
def mN (σ : xM) : Nat := σ.2.2.2.2.2.1
def mU (σ : xM) : Nat := σ.2.2.2.2.2.2
def up2 {α : Type} (f : Nat → Nat → α) (a i : Nat) (v : α) : Nat → Nat → α := va_up f a (va_up (f a) i v)
def sI (σ : xM) (f : Nat → Nat → Int32) : xM := (σ.1, σ.2.1, f, σ.2.2.2)
def sJ (σ : xM) (f : Nat → Nat → Int64) : xM := (σ.1, σ.2.1, σ.2.2.1, f, σ.2.2.2.2)
def sR (σ : xM) (f : Nat → Nat → Option Nat) : xM := (σ.1, σ.2.1, σ.2.2.1, σ.2.2.2.1, f, σ.2.2.2.2.2)
/-- a new cell of kind c and length n, u slots -/
def sNew (σ : xM) (c n u : Nat) : xM := (va_up (mK σ) (mN σ) c, va_up (mL σ) (mN σ) n, va_up (mI σ) (mN σ) (fun _ => 0), va_up (mJ σ) (mN σ) (fun _ => 0), va_up (mR σ) (mN σ) (fun _ => none), mN σ + 1, mU σ + u)
/-- where the cells lie, and where the texts do (a text's value in the small machine is a float: its number) -/
abbrev xAd : Type := (Nat → Nat) × (UInt32 → Nat)
def xad (z : Nat) (sa : UInt32 → Nat) : xAd := (fun a => z + a, sa)
def xv (ad : xAd) (v : Value) : Value := match v with
  | .ref a => .ref (ad.1 a)
  | .float b => .ref (ad.2 b)
  | v => v
/-- a reference's value, in the small machine -/
def xrv (r : Option Nat) : Value := match r with
  | none => .null
  | some a => .ref a
theorem xv_rv (ad : xAd) (r : Option Nat) : xv ad (xrv r) = va_rf (r.map ad.1) := by cases r <;> rfl
theorem xv_cat (ad : xAd) (v : Value) : (xv ad v).category = v.category := by cases v <;> rfl
theorem xv_cats (ad : xAd) (st : List Value) : ((st.map (xv ad)).map fun v => v.category).sum = (st.map fun v => v.category).sum := by
  rw [List.map_map]
  congr 1
  exact List.map_congr_left (fun v _ => xv_cat ad v)
-- ===== locals
def xclaim (ad : xAd) (ls : List Value) (i : Nat) : Option (Nat × Value) := match ls[i]? with
  | some (.int x) => some (i, .int x)
  | some (.ref a) => some (i, .ref (ad.1 a))
  | some (.float b) => some (i, .ref (ad.2 b))
  | some .null => some (i, .null)
  | some (.long x) => if ls[i + 1]? = some (.retAddr 1) then some (i, .long x) else none
  | _ => none
def xcl (ad : xAd) (ls : List Value) : List (Nat × Value) := (List.range ls.length).filterMap (xclaim ad ls)
def xL (ad : xAd) (ls : List Value) (arr : Array Slot) (nL : Nat) : Prop := ls.length = nL ∧ lv_has arr nL (xcl ad ls)
theorem xcl_mem {ad : xAd} {ls : List Value} {q : Nat × Value} : q ∈ xcl ad ls ↔ ∃ i, i < ls.length ∧ xclaim ad ls i = some q := by
  simp only [xcl, List.mem_filterMap, List.mem_range]
theorem xcl_of {ad : xAd} {ls : List Value} {i : Nat} {q : Nat × Value} (h : xclaim ad ls i = some q) : q ∈ xcl ad ls := by
  rw [xcl_mem]
  refine ⟨i, ?_, h⟩
  by_cases hi : i < ls.length
  · exact hi
  · have : ls[i]? = none := List.getElem?_eq_none (by omega)
    simp [xclaim, this] at h
theorem xL.int {ad : xAd} {ls : List Value} {arr : Array Slot} {nL i : Nat} {x : Int32} (h : xL ad ls arr nL) (hi : ls[i]? = some (.int x)) : arr[i]? = some (.val (.int x)) :=
  h.2.2.2 (i, .int x) (xcl_of (i := i) (by simp [xclaim, hi]))
theorem xL.ref {ad : xAd} {ls : List Value} {arr : Array Slot} {nL i a : Nat} (h : xL ad ls arr nL) (hi : ls[i]? = some (.ref a)) : arr[i]? = some (.val (.ref (ad.1 a))) :=
  h.2.2.2 (i, .ref (ad.1 a)) (xcl_of (i := i) (by simp [xclaim, hi]))
theorem xL.text {ad : xAd} {ls : List Value} {arr : Array Slot} {nL i : Nat} {b : UInt32} (h : xL ad ls arr nL) (hi : ls[i]? = some (.float b)) : arr[i]? = some (.val (.ref (ad.2 b))) :=
  h.2.2.2 (i, .ref (ad.2 b)) (xcl_of (i := i) (by simp [xclaim, hi]))
theorem xL.null {ad : xAd} {ls : List Value} {arr : Array Slot} {nL i : Nat} (h : xL ad ls arr nL) (hi : ls[i]? = some .null) : arr[i]? = some (.val .null) :=
  h.2.2.2 (i, .null) (xcl_of (i := i) (by simp [xclaim, hi]))
theorem xL.long {ad : xAd} {ls : List Value} {arr : Array Slot} {nL i : Nat} {x : Int64} (h : xL ad ls arr nL) (hi : ls[i]? = some (.long x)) (h2 : ls[i + 1]? = some (.retAddr 1)) : arr[i]? = some (.val (.long x)) :=
  h.2.2.2 (i, .long x) (xcl_of (i := i) (by simp [xclaim, hi, h2]))
theorem xclaim_fst {ad : xAd} {ls : List Value} {i : Nat} {q : Nat × Value} (h : xclaim ad ls i = some q) : q.1 = i := by
  unfold xclaim at h
  split at h <;> first | (cases h; rfl) | (split at h <;> cases h; rfl) | cases h
theorem xclaim_same {ad : xAd} {ls ls' : List Value} {i : Nat} {q : Nat × Value} (h0 : ls'[i]? = ls[i]?) (h1 : ls'[i + 1]? = some (.retAddr 1) → ls[i + 1]? = some (.retAddr 1)) (h : xclaim ad ls' i = some q) : xclaim ad ls i = some q := by
  unfold xclaim at h ⊢
  rw [h0] at h
  split at h <;> try exact h
  split at h
  · rename_i hh
    simp [h1 hh]
    cases h
    rfl
  · cases h
theorem xclaim_cat {ad : xAd} {ls : List Value} {i : Nat} {q : Nat × Value} (h : xclaim ad ls i = some q) (hc : q.2.category = 2) : ls[i + 1]? = some (.retAddr 1) := by
  unfold xclaim at h
  split at h
  all_goals first | (cases h; simp [Value.category] at hc; done) | (cases h; done) | skip
  split at h
  · assumption
  · cases h
/-- storing a value of one word -/
theorem xL_set1 {ad : xAd} {ls : List Value} {arr : Array Slot} {nL i : Nat} {v w : Value} (hw : xclaim ad [w] 0 = some (0, v)) (hl : ls.length = nL) (h : lv_has arr nL ((i, v) :: (xcl ad ls).filter (fun q => !(q.1 == i) && !(q.1 + 1 == i && q.2.category == 2)))) : xL ad (ls.set i w) arr nL := by
  have hwm : ¬ w = .retAddr 1 := by rintro rfl; simp [xclaim] at hw
  have hw2 : w.category ≠ 2 ∧ ∀ l2 : List Value, l2[i]? = some w → xclaim ad l2 i = some (i, v) := by
    cases w <;> simp [xclaim, Value.category] at hw ⊢ <;> subst hw <;> intro l2 h2 <;> simp [h2]
  refine ⟨by simp [hl], h.1, h.2.1, fun q hq => ?_⟩
  obtain ⟨j, hj, hc⟩ := xcl_mem.mp hq
  have e1 := xclaim_fst hc
  by_cases hji : j = i
  · subst hji
    rw [List.length_set] at hj
    have h5 : (ls.set j w)[j]? = some w := by simp [hj]
    rw [hw2.2 _ h5] at hc
    cases hc
    exact h.2.2 _ List.mem_cons_self
  · have h6 : xclaim ad ls j = some q := by
      refine xclaim_same ?_ ?_ hc
      · rw [List.getElem?_set_ne (by omega)]
      · intro h7
        by_cases hj2 : j + 1 = i
        · rw [hj2] at h7
          rw [List.getElem?_set_self (by
            by_cases hh : i < ls.length
            · exact hh
            · rw [List.getElem?_eq_none (by simp; omega)] at h7
              cases h7)] at h7
          cases h7
          exact absurd rfl hwm
        · rwa [List.getElem?_set_ne (by omega)] at h7
    refine h.2.2 q (List.mem_cons_of_mem _ (List.mem_filter.mpr ⟨xcl_of h6, ?_⟩))
    by_cases hj2 : j + 1 = i
    · have : q.2.category ≠ 2 := fun hcat => by
        have h8 := xclaim_cat hc hcat
        rw [hj2] at h8
        by_cases hh : i < ls.length
        · rw [List.getElem?_set_self hh] at h8
          cases h8
          exact absurd rfl hwm
        · rw [List.getElem?_eq_none (by simp; omega)] at h8
          cases h8
      simp [e1, hji, this]
    · simp [e1, hji, hj2]
/-- storing a long -/
theorem xL_set2 {ad : xAd} {ls : List Value} {arr : Array Slot} {nL i : Nat} {x : Int64} (hl : ls.length = nL) (h : lv_has arr nL ((i, Value.long x) :: (xcl ad ls).filter (fun q => !(q.1 == i) && (!(q.1 == i + 1) && !(q.1 + 1 == i && q.2.category == 2))))) : xL ad ((ls.set i (.long x)).set (i + 1) (.retAddr 1)) arr nL := by
  refine ⟨by simp [hl], h.1, h.2.1, fun q hq => ?_⟩
  obtain ⟨j, hj, hc⟩ := xcl_mem.mp hq
  have e1 := xclaim_fst hc
  simp only [List.length_set] at hj
  by_cases hji : j = i
  · subst hji
    have h5 : ((ls.set j (.long x)).set (j + 1) (.retAddr 1))[j]? = some (.long x) := by
      rw [List.getElem?_set_ne (by omega), List.getElem?_set_self hj]
    unfold xclaim at hc
    rw [h5] at hc
    simp only at hc
    split at hc
    · cases hc
      exact h.2.2 _ List.mem_cons_self
    · cases hc
  · by_cases hj1 : j = i + 1
    · subst hj1
      have h5 : ((ls.set i (.long x)).set (i + 1) (.retAddr 1))[i + 1]? = some (.retAddr 1) := by
        rw [List.getElem?_set_self (by simp; omega)]
      unfold xclaim at hc
      rw [h5] at hc
      cases hc
    · have g0 : ((ls.set i (.long x)).set (i + 1) (.retAddr 1))[j]? = ls[j]? := by
        rw [List.getElem?_set_ne (by omega), List.getElem?_set_ne (by omega)]
      by_cases hj2 : j + 1 = i
      · have hn : ¬ ((ls.set i (.long x)).set (i + 1) (.retAddr 1))[j + 1]? = some (.retAddr 1) := by
          rw [hj2, List.getElem?_set_ne (by omega)]
          by_cases hh : i < ls.length
          · rw [List.getElem?_set_self hh]; simp
          · rw [List.getElem?_eq_none (by simp; omega)]; simp
        have h6 : xclaim ad ls j = some q := xclaim_same g0 (fun h7 => absurd h7 hn) hc
        have hcat : q.2.category ≠ 2 := fun hcat => hn (xclaim_cat hc hcat)
        refine h.2.2 q (List.mem_cons_of_mem _ (List.mem_filter.mpr ⟨xcl_of h6, ?_⟩))
        simp [e1, hji, hj1, hcat]
      · have h6 : xclaim ad ls j = some q := by
          refine xclaim_same g0 (fun h7 => ?_) hc
          rwa [List.getElem?_set_ne (by omega), List.getElem?_set_ne (by omega)] at h7
        refine h.2.2 q (List.mem_cons_of_mem _ (List.mem_filter.mpr ⟨xcl_of h6, ?_⟩))
        simp [e1, hji, hj1, hj2]
/-- a method's first locals -/
def xflat : List Value → List Value
  | [] => []
  | v :: r => if v.category = 2 then v :: .retAddr 1 :: xflat r else v :: xflat r
def xent (as : List Value) (ml : Nat) : List Value := xflat as ++ List.replicate (ml - (xflat as).length) (.retAddr 0)
theorem xflat_len (ad : xAd) : ∀ as : List Value, (lg_sl (as.map (xv ad))).length = (xflat as).length
  | [] => rfl
  | v :: r => by
    have ih := xflat_len ad r
    simp only [lg_sl, List.map_cons, List.flatMap_cons, List.length_append, xflat] at ih ⊢
    rw [xv_cat]
    by_cases h : v.category = 2
    · simp only [h, if_true, List.length_cons, List.length_nil]; omega
    · simp only [h, if_false, List.length_cons, List.length_nil]; omega
theorem xclaim_args (ad : xAd) (pad : List Value) (hp : ∀ v ∈ pad, v = .retAddr 0) : ∀ (as pre : List Value) (j : Nat) (q : Nat × Value), pre.length ≤ j → xclaim ad (pre ++ (xflat as ++ pad)) j = some q → q ∈ lv_args pre.length (as.map (xv ad))
  | [], pre, j, q, hj, h => by
    exfalso
    have h2 : ∀ v, (pre ++ (xflat [] ++ pad))[j]? = some v → v = .retAddr 0 := fun v hv => by
      rw [List.getElem?_append_right hj] at hv
      exact hp v (List.mem_of_getElem? hv)
    unfold xclaim at h
    split at h
    all_goals first | (rename_i hh; have := h2 _ hh; simp at this; done) | (cases h; done)
  | v :: r, pre, j, q, hj, h => by
    by_cases hc : v.category = 2
    · have e1 : pre ++ (xflat (v :: r) ++ pad) = (pre ++ [v, .retAddr 1]) ++ (xflat r ++ pad) := by simp [xflat, hc]
      simp only [List.map_cons, lv_args, xv_cat, hc, if_true]
      rcases Nat.lt_or_ge j (pre.length + 2) with h3 | h3
      · rcases Nat.lt_or_ge j (pre.length + 1) with h4 | h4
        · have : j = pre.length := by omega
          subst this
          have e2 : (pre ++ (xflat (v :: r) ++ pad))[pre.length]? = some v := by rw [e1]; simp
          have e3 := xclaim_fst h
          cases v <;> simp [Value.category] at hc
          · unfold xclaim at h
            rw [e2] at h
            simp only at h
            split at h
            · cases h; exact List.mem_cons_self
            · cases h
          · unfold xclaim at h
            rw [e2] at h
            cases h
        · have : j = pre.length + 1 := by omega
          subst this
          have e2 : (pre ++ (xflat (v :: r) ++ pad))[pre.length + 1]? = some (.retAddr 1) := by
            rw [e1, List.getElem?_append_left (by simp), List.getElem?_append_right (by omega)]
            simp
          unfold xclaim at h
          rw [e2] at h
          cases h
      · rw [e1] at h
        have := xclaim_args ad pad hp r (pre ++ [v, .retAddr 1]) j q (by simp; omega) h
        refine List.mem_cons_of_mem _ ?_
        simpa using this
    · have e1 : pre ++ (xflat (v :: r) ++ pad) = (pre ++ [v]) ++ (xflat r ++ pad) := by simp [xflat, hc]
      simp only [List.map_cons, lv_args, xv_cat, hc, if_false]
      rcases Nat.lt_or_ge j (pre.length + 1) with h4 | h4
      · have : j = pre.length := by omega
        subst this
        have e2 : (pre ++ (xflat (v :: r) ++ pad))[pre.length]? = some v := by rw [e1]; simp
        have e3 := xclaim_fst h
        unfold xclaim at h
        rw [e2] at h
        cases v <;> simp [Value.category] at hc <;> simp at h <;> subst h <;> exact List.mem_cons_self
      · rw [e1] at h
        have := xclaim_args ad pad hp r (pre ++ [v]) j q (by simp; omega) h
        refine List.mem_cons_of_mem _ ?_
        simpa using this
theorem xL_ent (ad : xAd) (as : List Value) {ml : Nat} (h : (xflat as).length ≤ ml) : xL ad (xent as ml) ((lg_sl (as.map (xv ad)) ++ List.replicate (ml - (lg_sl (as.map (xv ad))).length) Slot.unset).toArray) ml := by
  have he := lv_entry (as.map (xv ad)) (n := ml) (by rw [xflat_len]; exact h)
  refine ⟨by simp [xent]; omega, he.1, he.2.1, fun q hq => he.2.2 q ?_⟩
  obtain ⟨j, -, hc⟩ := xcl_mem.mp hq
  exact xclaim_args ad (List.replicate (ml - (xflat as).length) (.retAddr 0)) (fun v hv => (List.mem_replicate.mp hv).2) as [] j q (Nat.zero_le _) hc
end
section
/-! the steps of the small machine -/
abbrev xSt : Type := Nat × List Value × List Value × xM
def xcmp (c : ClassFile.Cond) (x y : Int32) : Bool := match c with
  | .eq => decide (x = y)
  | .ne => decide (¬ x = y)
  | .lt => decide (x < y)
  | .ge => decide (y ≤ x)
  | .gt => decide (y < x)
  | .le => decide (x ≤ y)
/-- a field's value -/
def xfg (t : Nat) (i : Int32) (j : Int64) (r : Option Nat) : Value := if t = 1 then .long j else if t = 2 then xrv r else .int i
/-- a field is written -/
def xfp (σ : xM) (a k t : Nat) (v : Value) : Option xM := match v with
  | .int x => if t = 0 then some (sI σ (up2 (mI σ) a k x)) else if t = 3 then (if x = 0 ∨ x = 1 then some (sI σ (up2 (mI σ) a k x)) else none) else none
  | .long x => if t = 1 then some (sJ σ (up2 (mJ σ) a k x)) else none
  | .ref b => if t = 2 then some (sR σ (up2 (mR σ) a k (some b))) else none
  | .null => if t = 2 then some (sR σ (up2 (mR σ) a k none)) else none
  | _ => none
def xinB (i : Int32) (n : Nat) : Bool := !(decide (i < 0)) && Nat.blt i.toNatClampNeg n
/-- stack room -/
def xsr (st : List Value) : Bool := Nat.ble ((st.map fun v => v.category).sum) 8
def xstep (d : Nat) (i : Instr) (rn : Nat) (ri : Int32) (rl : Int64) (pc : Nat) (ls st : List Value) (σ : xM) : Option xSt := match i with
  | .iconst _ => some (pc + 1, ls, .int ri :: st, σ)
  | .bipush _ => some (pc + 2, ls, .int ri :: st, σ)
  | .sipush _ => some (pc + 3, ls, .int ri :: st, σ)
  | .lconst _ => some (pc + 1, ls, .long rl :: st, σ)
  | .ldc _ => if rn < 1000 then some (pc + 2, ls, .int ri :: st, σ) else some (pc + 2, ls, .float (UInt32.ofNat (rn - 1000)) :: st, σ)
  | .ldc_w _ => if rn < 1000 then some (pc + 3, ls, .int ri :: st, σ) else some (pc + 3, ls, .float (UInt32.ofNat (rn - 1000)) :: st, σ)
  | .ldc2_w _ => some (pc + 3, ls, .long rl :: st, σ)
  | .iload_n n => match ls[n.val]? with
    | some (.int x) => some (pc + 1, ls, .int x :: st, σ)
    | _ => none
  | .iload n => match ls[n]? with
    | some (.int x) => some (pc + 2, ls, .int x :: st, σ)
    | _ => none
  | .lload_n n => match ls[n.val]?, ls[n.val + 1]? with
    | some (.long x), some (.retAddr 1) => some (pc + 1, ls, .long x :: st, σ)
    | _, _ => none
  | .lload n => match ls[n]?, ls[n + 1]? with
    | some (.long x), some (.retAddr 1) => some (pc + 2, ls, .long x :: st, σ)
    | _, _ => none
  | .aload_n n => match ls[n.val]? with
    | some (.ref a) => some (pc + 1, ls, .ref a :: st, σ)
    | some (.float a) => some (pc + 1, ls, .float a :: st, σ)
    | _ => none
  | .aload n => match ls[n]? with
    | some (.ref a) => some (pc + 2, ls, .ref a :: st, σ)
    | _ => none
  | .istore_n n => match st with
    | .int x :: r => if n.val < ls.length then some (pc + 1, ls.set n.val (.int x), r, σ) else none
    | _ => none
  | .istore n => match st with
    | .int x :: r => if n < ls.length then some (pc + 2, ls.set n (.int x), r, σ) else none
    | _ => none
  | .lstore_n n => match st with
    | .long x :: r => if n.val + 1 < ls.length then some (pc + 1, (ls.set n.val (.long x)).set (n.val + 1) (.retAddr 1), r, σ) else none
    | _ => none
  | .lstore n => match st with
    | .long x :: r => if n + 1 < ls.length then some (pc + 2, (ls.set n (.long x)).set (n + 1) (.retAddr 1), r, σ) else none
    | _ => none
  | .astore_n n => match st with
    | .ref x :: r => if n.val < ls.length then some (pc + 1, ls.set n.val (.ref x), r, σ) else none
    | _ => none
  | .iinc n _ => match ls[n]? with
    | some (.int x) => some (pc + 3, ls.set n (.int (x + ri)), st, σ)
    | _ => none
  | .iadd => match st with
    | .int y :: .int x :: r => some (pc + 1, ls, .int (x + y) :: r, σ)
    | _ => none
  | .isub => match st with
    | .int y :: .int x :: r => some (pc + 1, ls, .int (x - y) :: r, σ)
    | _ => none
  | .imul => match st with
    | .int y :: .int x :: r => some (pc + 1, ls, .int (x * y) :: r, σ)
    | _ => none
  | .iand => match st with
    | .int y :: .int x :: r => some (pc + 1, ls, .int (x &&& y) :: r, σ)
    | _ => none
  | .ior => match st with
    | .int y :: .int x :: r => some (pc + 1, ls, .int (x ||| y) :: r, σ)
    | _ => none
  | .ixor => match st with
    | .int y :: .int x :: r => some (pc + 1, ls, .int (x ^^^ y) :: r, σ)
    | _ => none
  | .ishl => match st with
    | .int y :: .int x :: r => some (pc + 1, ls, .int (x <<< (y &&& 31)) :: r, σ)
    | _ => none
  | .ishr => match st with
    | .int y :: .int x :: r => some (pc + 1, ls, .int (x >>> (y &&& 31)) :: r, σ)
    | _ => none
  | .iushr => match st with
    | .int y :: .int x :: r => some (pc + 1, ls, .int (x.toUInt32 >>> (y.toUInt32 &&& Int32.toUInt32 31)).toInt32 :: r, σ)
    | _ => none
  | .idiv => match st with
    | .int y :: .int x :: r => if y = 0 then none else some (pc + 1, ls, .int (x / y) :: r, σ)
    | _ => none
  | .irem => match st with
    | .int y :: .int x :: r => if y = 0 then none else some (pc + 1, ls, .int (x - x / y * y) :: r, σ)
    | _ => none
  | .ineg => match st with
    | .int x :: r => some (pc + 1, ls, .int (-x) :: r, σ)
    | _ => none
  | .ladd => match st with
    | .long y :: .long x :: r => some (pc + 1, ls, .long (x + y) :: r, σ)
    | _ => none
  | .lmul => match st with
    | .long y :: .long x :: r => some (pc + 1, ls, .long (x * y) :: r, σ)
    | _ => none
  | .lor => match st with
    | .long y :: .long x :: r => some (pc + 1, ls, .long (x ||| y) :: r, σ)
    | _ => none
  | .ldiv => match st with
    | .long y :: .long x :: r => if y = 0 then none else some (pc + 1, ls, .long (x / y) :: r, σ)
    | _ => none
  | .lrem => match st with
    | .long y :: .long x :: r => if y = 0 then none else some (pc + 1, ls, .long (x - x / y * y) :: r, σ)
    | _ => none
  | .lshl => match st with
    | .int y :: .long x :: r => some (pc + 1, ls, .long (x <<< (y.toInt64 &&& 63)) :: r, σ)
    | _ => none
  | .lcmp => match st with
    | .long y :: .long x :: r => some (pc + 1, ls, .int (lg_cmp x y) :: r, σ)
    | _ => none
  | .i2l => match st with
    | .int x :: r => some (pc + 1, ls, .long x.toInt64 :: r, σ)
    | _ => none
  | .l2i => match st with
    | .long x :: r => some (pc + 1, ls, .int x.toInt32 :: r, σ)
    | _ => none
  | .i2b => match st with
    | .int x :: r => some (pc + 1, ls, .int x.toInt8.toInt32 :: r, σ)
    | _ => none
  | .dup => match st with
    | v :: r => if v.category = 1 then some (pc + 1, ls, v :: v :: r, σ) else none
    | _ => none
  | .pop => match st with
    | v :: r => if v.category = 1 then some (pc + 1, ls, r, σ) else none
    | _ => none
  | .dup2 => match st with
    | v :: w :: r => if v.category = 1 ∧ w.category = 1 then some (pc + 1, ls, v :: w :: v :: w :: r, σ) else none
    | _ => none
  | .ifCond c _ => match st with
    | .int x :: r => some (bif xcmp c x 0 then rn else pc + 3, ls, r, σ)
    | _ => none
  | .if_icmp c _ => match st with
    | .int y :: .int x :: r => some (bif xcmp c x y then rn else pc + 3, ls, r, σ)
    | _ => none
  | .ifnull _ => match st with
    | .null :: r => some (rn, ls, r, σ)
    | .ref _ :: r => some (pc + 3, ls, r, σ)
    | _ => none
  | .ifnonnull _ => match st with
    | .null :: r => some (pc + 3, ls, r, σ)
    | .ref _ :: r => some (rn, ls, r, σ)
    | _ => none
  | .goto _ => some (rn, ls, st, σ)
  | .tableswitch df lo hi offs => match st with
    | .int x :: r => if x.toInt < lo ∨ hi < x.toInt then some (((pc : Int) + df).toNat, ls, r, σ) else match offs[(x.toInt - lo).toNat]? with
      | some off => some (((pc : Int) + off).toNat, ls, r, σ)
      | none => none
    | _ => none
  | .getfield _ => match st with
    | .ref a :: r => bif Nat.blt a (mN σ) && Nat.beq (mK σ a) (rn / 100) then some (pc + 3, ls, xfg (xT (rn / 100) (rn % 100)) (mI σ a (rn % 100)) (mJ σ a (rn % 100)) (mR σ a (rn % 100)) :: r, σ) else none
    | _ => none
  | .putfield _ => match st with
    | v :: .ref a :: r => bif Nat.blt a (mN σ) && Nat.beq (mK σ a) (rn / 100) then (match xfp σ a (rn % 100) (xT (rn / 100) (rn % 100)) v with
      | some σ' => some (pc + 3, ls, r, σ')
      | none => none) else none
    | _ => none
  | .iaload => match st with
    | .int j :: .ref a :: r => bif Nat.blt a (mN σ) && Nat.beq (mK σ a) 11 && xinB j (mL σ a) then some (pc + 1, ls, .int (mI σ a j.toNatClampNeg) :: r, σ) else none
    | _ => none
  | .baload => match st with
    | .int j :: .ref a :: r => bif Nat.blt a (mN σ) && Nat.beq (mK σ a) 10 && xinB j (mL σ a) then some (pc + 1, ls, .int (mI σ a j.toNatClampNeg) :: r, σ) else none
    | _ => none
  | .laload => match st with
    | .int j :: .ref a :: r => bif Nat.blt a (mN σ) && Nat.beq (mK σ a) 12 && xinB j (mL σ a) then some (pc + 1, ls, .long (mJ σ a j.toNatClampNeg) :: r, σ) else none
    | _ => none
  | .aaload => match st with
    | .int j :: .ref a :: r => bif Nat.blt a (mN σ) && Nat.beq (mK σ a) 13 && xinB j (mL σ a) then some (pc + 1, ls, xrv (mR σ a j.toNatClampNeg) :: r, σ) else none
    | _ => none
  | .iastore => match st with
    | .int x :: .int j :: .ref a :: r => bif Nat.blt a (mN σ) && Nat.beq (mK σ a) 11 && xinB j (mL σ a) then some (pc + 1, ls, r, sI σ (up2 (mI σ) a j.toNatClampNeg x)) else none
    | _ => none
  | .bastore => match st with
    | .int x :: .int j :: .ref a :: r => bif Nat.blt a (mN σ) && Nat.beq (mK σ a) 10 && xinB j (mL σ a) then some (pc + 1, ls, r, sI σ (up2 (mI σ) a j.toNatClampNeg (x.toInt8.toInt32))) else none
    | _ => none
  | .lastore => match st with
    | .long x :: .int j :: .ref a :: r => bif Nat.blt a (mN σ) && Nat.beq (mK σ a) 12 && xinB j (mL σ a) then some (pc + 1, ls, r, sJ σ (up2 (mJ σ) a j.toNatClampNeg x)) else none
    | _ => none
  | .aastore => match st with
    | .ref b :: .int j :: .ref a :: r => bif Nat.blt a (mN σ) && Nat.beq (mK σ a) 13 && xinB j (mL σ a) && Nat.blt b (mN σ) && Nat.beq (mK σ b) 4 then some (pc + 1, ls, r, sR σ (up2 (mR σ) a j.toNatClampNeg (some b))) else none
    | _ => none
  | .new _ => some (pc + 3, ls, .ref (mN σ) :: st, sNew σ rn 0 (xNF rn))
  | .newarray _ => match st with
    | .int n :: r => bif xinB n 2000 then some (pc + 2, ls, .ref (mN σ) :: r, sNew σ rn n.toNatClampNeg n.toNatClampNeg) else none
    | _ => none
  | .anewarray _ => match st with
    | .int n :: r => bif xinB n 2000 then some (pc + 3, ls, .ref (mN σ) :: r, sNew σ 13 n.toNatClampNeg n.toNatClampNeg) else none
    | _ => none
  | .invokespecial _ => bif Nat.beq rn 9000 && Nat.blt 0 d then (match st with
    | .ref _ :: r => bif xsr r then some (pc + 3, ls, r, σ) else none
    | _ => none) else none
  | .invokestatic _ => bif Nat.blt 0 d then (bif Nat.beq rn 9001 then (match st with
    | .int y :: .int x :: r => bif xsr r then some (pc + 3, ls, .int (if y < x then y else x) :: r, σ) else none
    | _ => none) else bif Nat.beq rn 9002 then (match st with
    | .int y :: .int x :: r => bif xsr r then some (pc + 3, ls, .int (if y > x then y else x) :: r, σ) else none
    | _ => none) else bif Nat.beq rn 9003 then (match st with
    | .int n :: .int dp :: .ref a :: .int sp :: .ref b :: r => bif xsr r && Nat.blt a (mN σ) && Nat.beq (mK σ a) 11 && Nat.blt b (mN σ) && Nat.beq (mK σ b) 11 && !(decide (sp < 0)) && !(decide (dp < 0)) && !(decide (n < 0)) && Nat.ble (sp.toNatClampNeg + n.toNatClampNeg) (mL σ b) && Nat.ble (dp.toNatClampNeg + n.toNatClampNeg) (mL σ a) then
        some (pc + 3, ls, r, sI σ (va_up (mI σ) a (va_cpy (mI σ b) (mI σ a) sp.toNatClampNeg dp.toNatClampNeg n.toNatClampNeg))) else none
    | _ => none) else none) else none
  | _ => none
/-- a return -/
def xret (i : Instr) (t : Option FieldType) (st : List Value) : Option (Option Value) := match i, t, st with
  | .ireturn, some .int, [.int x] => some (some (.int x))
  | .ireturn, some .boolean, [.int x] => if x = 0 ∨ x = 1 then some (some (.int x)) else none
  | .lreturn, some .long, [.long x] => some (some (.long x))
  | .areturn, some (.object _), [.ref a] => some (some (.ref a))
  | .return_, none, [] => some none
  | _, _, _ => none
/-- a call: its arguments, what stays on the stack -/
def xargs (i : Instr) (k : Nat) (st : List Value) (σ : xM) : Option (List Value × List Value) := match i with
  | .invokevirtual _ => match (st.take (xE k).2.2.2.2.2.1).reverse with
    | .ref a :: as => bif Nat.blt a (mN σ) && Nat.beq (mK σ a) (xE k).2.2.2.2.1 && Nat.beq (as.length + 1) (xE k).2.2.2.2.2.1 then some (.ref a :: as, st.drop (xE k).2.2.2.2.2.1) else none
    | _ => none
  | .invokespecial _ => match (st.take (xE k).2.2.2.2.2.1).reverse with
    | .ref a :: as => bif Nat.beq (as.length + 1) (xE k).2.2.2.2.2.1 then some (.ref a :: as, st.drop (xE k).2.2.2.2.2.1) else none
    | _ => none
  | .invokestatic _ => bif Nat.beq ((st.take (xE k).2.2.2.2.2.1).length) (xE k).2.2.2.2.2.1 then some ((st.take (xE k).2.2.2.2.2.1).reverse, st.drop (xE k).2.2.2.2.2.1) else none
  | _ => none
end
section
/-! the small machine's memory in the machine's heap; kind 20: an exception that was made (nothing is said of it) -/
abbrev vwC2 : List vw_C := vwCl ++ [("java/util/NoSuchElementException", TX0, 0)]
theorem x_k2 {c : Nat} {q : vw_C} (h : vwCl[c]? = some q) : vwC2[c]? = some q := by
  rw [List.getElem?_append_left (List.getElem?_eq_some_iff.mp h).1]
  exact h
def xfv (ad : xAd) (t : Nat) (i : Int32) (j : Int64) (r : Option Nat) : Value := xv ad (xfg t i j r)
def xcell (cy : Nat → ClassId) (ad : xAd) (c n : Nat) (I : Nat → Int32) (J : Nat → Int64) (R : Nat → Option Nat) : va_E :=
  if c < 10 then .inr (c, (List.range (xNF c)).map (fun k => xfv ad (xT c k) (I k) (J k) (R k)))
  else if c = 20 then .inr (10, [])
  else .inl (cy c, n, if c = 12 then .inr (.inl J) else if c = 13 then .inr (.inr (.inr (.inr (fun i => (R i).map ad.1)))) else .inl I)
def xC (cy : Nat → ClassId) (ad : xAd) (σ : xM) (a : Nat) : va_E := xcell cy ad (mK σ a) (mL σ a) (mI σ a) (mJ σ a) (mR σ a)
def xW (cy : Nat → ClassId) (ad : xAd) (σ : xM) : va_W := (List.range (mN σ)).map (fun a => (ad.1 a, xC cy ad σ a))
def xty (cy : Nat → ClassId) : List (ClassId × FieldType) := [(cy 10, .byte), (cy 11, .int), (cy 12, .long), (cy 13, .object "LastAsked$State")]
theorem xW_at (cy : Nat → ClassId) (ad : xAd) (σ : xM) {a : Nat} (h : a < mN σ) : (xW cy ad σ)[a]? = some (ad.1 a, xC cy ad σ a) := by
  simp [xW, h]
theorem xW_inv {cy : Nat → ClassId} {ad : xAd} {σ : xM} {k : Nat} {q : Nat × va_E} (h : (xW cy ad σ)[k]? = some q) : k < mN σ ∧ q = (ad.1 k, xC cy ad σ k) := by
  have hk : k < mN σ := by
    have := (List.getElem?_eq_some_iff.mp h).1
    simpa [xW] using this
  rw [xW_at cy ad σ hk] at h
  exact ⟨hk, (Option.some.inj h).symm⟩
theorem xW_set {cy : Nat → ClassId} {ad : xAd} {σ σ' : xM} {a : Nat} {e : va_E} (hn : mN σ' = mN σ) (ha : xC cy ad σ' a = e) (ho : ∀ b, b ≠ a → xC cy ad σ' b = xC cy ad σ b) : (xW cy ad σ).set a (ad.1 a, e) = xW cy ad σ' := by
  apply List.ext_getElem?
  intro k
  by_cases hk : k < mN σ
  · rw [xW_at cy ad σ' (by omega)]
    by_cases hka : k = a
    · subst hka
      rw [List.getElem?_set_self (by simpa [xW] using hk), ha]
    · rw [List.getElem?_set_ne (fun h => hka h.symm), xW_at cy ad σ hk, ho k hka]
  · rw [List.getElem?_eq_none (by simp [xW]; omega), List.getElem?_eq_none (by simp [xW]; omega)]
theorem xW_D {cy : Nat → ClassId} {z : Nat} {sa : UInt32 → Nat} {σ : xM} : va_D (fun q => z ≤ q) (xW cy (xad z sa) σ) := by
  refine ⟨fun i j p q hi hj hpq => ?_, fun k q hk => ?_⟩
  · obtain ⟨h1, rfl⟩ := xW_inv hi
    obtain ⟨h2, rfl⟩ := xW_inv hj
    exact Nat.add_left_cancel hpq
  · obtain ⟨h1, rfl⟩ := xW_inv hk
    exact Nat.le_add_right z k
theorem xC_obj {cy : Nat → ClassId} {ad : xAd} {σ : xM} {a c : Nat} (h : mK σ a = c) (hc : c < 10) : xC cy ad σ a = .inr (c, (List.range (xNF c)).map (fun k => xfv ad (xT c k) (mI σ a k) (mJ σ a k) (mR σ a k))) := by
  subst h
  simp [xC, xcell, hc]
theorem xC_I {cy : Nat → ClassId} {ad : xAd} {σ : xM} {a : Nat} (h : mK σ a = 11) : xC cy ad σ a = .inl (cy 11, mL σ a, .inl (mI σ a)) := by simp [xC, xcell, h]
theorem xC_B {cy : Nat → ClassId} {ad : xAd} {σ : xM} {a : Nat} (h : mK σ a = 10) : xC cy ad σ a = .inl (cy 10, mL σ a, .inl (mI σ a)) := by simp [xC, xcell, h]
theorem xC_J {cy : Nat → ClassId} {ad : xAd} {σ : xM} {a : Nat} (h : mK σ a = 12) : xC cy ad σ a = .inl (cy 12, mL σ a, .inr (.inl (mJ σ a))) := by simp [xC, xcell, h]
theorem xC_R {cy : Nat → ClassId} {ad : xAd} {σ : xM} {a : Nat} (h : mK σ a = 13) : xC cy ad σ a = .inl (cy 13, mL σ a, .inr (.inr (.inr (.inr (fun i => (mR σ a i).map ad.1))))) := by simp [xC, xcell, h]
theorem up2_ne {α : Type} (f : Nat → Nat → α) {a b : Nat} (i : Nat) (v : α) (h : b ≠ a) : up2 f a i v b = f b := va_up_ne f _ h
theorem up2_self {α : Type} (f : Nat → Nat → α) (a i : Nat) (v : α) : up2 f a i v a = va_up (f a) i v := va_up_self f a _
theorem xset_map {α : Type} (f : Nat → α) (n k : Nat) (v : α) : ((List.range n).map f).set k v = (List.range n).map (va_up f k v) := by
  apply List.ext_getElem?
  intro j
  by_cases hj : j < n
  · by_cases hk : j = k
    · subst hk
      rw [List.getElem?_set_self (by simpa using hj)]
      simp [hj, va_up_self]
    · rw [List.getElem?_set_ne (fun h => hk h.symm)]
      simp [hj, va_up_ne _ _ hk]
  · rw [List.getElem?_eq_none (by simp; omega), List.getElem?_eq_none (by simp; omega)]
/-- a field written: the cell's list -/
theorem xfp_ok {cy : Nat → ClassId} {ad : xAd} {σ σ' : xM} {a k c t : Nat} {v : Value} (hc : c < 10) (hK : mK σ a = c) (ht : xT c k = t) (h : xfp σ a k t v = some σ') :
    mN σ' = mN σ ∧ mU σ' = mU σ ∧ (∀ b, b ≠ a → xC cy ad σ' b = xC cy ad σ b) ∧ xC cy ad σ' a = .inr (c, ((List.range (xNF c)).map (fun j => xfv ad (xT c j) (mI σ a j) (mJ σ a j) (mR σ a j))).set k (xv ad v)) := by
  unfold xfp at h
  have main : ∀ (σ1 : xM), mK σ1 = mK σ → mL σ1 = mL σ → mN σ1 = mN σ → mU σ1 = mU σ → (∀ b, b ≠ a → mI σ1 b = mI σ b ∧ mJ σ1 b = mJ σ b ∧ mR σ1 b = mR σ b) → (∀ j, xfv ad (xT c j) (mI σ1 a j) (mJ σ1 a j) (mR σ1 a j) = va_up (fun j => xfv ad (xT c j) (mI σ a j) (mJ σ a j) (mR σ a j)) k (xv ad v) j) →
      mN σ1 = mN σ ∧ mU σ1 = mU σ ∧ (∀ b, b ≠ a → xC cy ad σ1 b = xC cy ad σ b) ∧ xC cy ad σ1 a = .inr (c, ((List.range (xNF c)).map (fun j => xfv ad (xT c j) (mI σ a j) (mJ σ a j) (mR σ a j))).set k (xv ad v)) := by
    intro σ1 e1 e2 e3 e4 e5 e6
    refine ⟨e3, e4, fun b hb => ?_, ?_⟩
    · obtain ⟨f1, f2, f3⟩ := e5 b hb
      simp only [xC, e1, e2, f1, f2, f3]
    · rw [xC_obj (by rw [e1]; exact hK) hc, xset_map]
      congr 2
      exact List.map_congr_left (fun j _ => e6 j)
  split at h
  · rename_i x
    split at h
    · cases h
      refine main _ rfl rfl rfl rfl (fun b hb => ⟨up2_ne _ _ _ hb, rfl, rfl⟩) (fun j => ?_)
      show xfv ad (xT c j) (up2 (mI σ) a k x a j) (mJ σ a j) (mR σ a j) = _
      rw [up2_self]
      by_cases hj : j = k
      · subst hj
        rw [va_up_self, va_up_self, ht]
        rename_i h0
        subst h0
        rfl
      · rw [va_up_ne _ _ hj, va_up_ne _ _ hj]
    · split at h
      · split at h
        · cases h
          refine main _ rfl rfl rfl rfl (fun b hb => ⟨up2_ne _ _ _ hb, rfl, rfl⟩) (fun j => ?_)
          show xfv ad (xT c j) (up2 (mI σ) a k x a j) (mJ σ a j) (mR σ a j) = _
          rw [up2_self]
          by_cases hj : j = k
          · subst hj
            rw [va_up_self, va_up_self, ht]
            rename_i h0 _
            subst h0
            rfl
          · rw [va_up_ne _ _ hj, va_up_ne _ _ hj]
        · cases h
      · cases h
  · rename_i x
    split at h
    · cases h
      refine main _ rfl rfl rfl rfl (fun b hb => ⟨rfl, up2_ne _ _ _ hb, rfl⟩) (fun j => ?_)
      show xfv ad (xT c j) (mI σ a j) (up2 (mJ σ) a k x a j) (mR σ a j) = _
      rw [up2_self]
      by_cases hj : j = k
      · subst hj
        rw [va_up_self, va_up_self, ht]
        rename_i h0
        subst h0
        rfl
      · rw [va_up_ne _ _ hj, va_up_ne _ _ hj]
    · cases h
  · rename_i x
    split at h
    · cases h
      refine main _ rfl rfl rfl rfl (fun b hb => ⟨rfl, rfl, up2_ne _ _ _ hb⟩) (fun j => ?_)
      show xfv ad (xT c j) (mI σ a j) (mJ σ a j) (up2 (mR σ) a k (some x) a j) = _
      rw [up2_self]
      by_cases hj : j = k
      · subst hj
        rw [va_up_self, va_up_self, ht]
        rename_i h0
        subst h0
        rfl
      · rw [va_up_ne _ _ hj, va_up_ne _ _ hj]
    · cases h
  · split at h
    · cases h
      refine main _ rfl rfl rfl rfl (fun b hb => ⟨rfl, rfl, up2_ne _ _ _ hb⟩) (fun j => ?_)
      show xfv ad (xT c j) (mI σ a j) (mJ σ a j) (up2 (mR σ) a k none a j) = _
      rw [up2_self]
      by_cases hj : j = k
      · subst hj
        rw [va_up_self, va_up_self, ht]
        rename_i h0
        subst h0
        rfl
      · rw [va_up_ne _ _ hj, va_up_ne _ _ hj]
    · cases h
  · cases h
/-- what a written field's type is -/
theorem xfp_ty {σ σ' : xM} {a k : Nat} {ad : xAd} {ty : FieldType} {v : Value} (h : xfp σ a k (xtc ty) v = some σ') : narrow ty (xv ad v) = xv ad v ∧ fits ty (xv ad v) = true := by
  unfold xfp at h
  split at h
  · rename_i x
    split at h
    · cases ty <;> simp [xtc] at * <;> exact ⟨rfl, rfl⟩
    · split at h
      · split at h
        · rename_i h3
          cases ty <;> simp [xtc] at *
          rcases h3 with rfl | rfl <;> exact ⟨rfl, rfl⟩
        · cases h
      · cases h
  · split at h
    · cases ty <;> simp [xtc] at * <;> exact ⟨rfl, rfl⟩
    · cases h
  · split at h
    · cases ty <;> simp [xtc] at * <;> exact ⟨rfl, rfl⟩
    · cases h
  · split at h
    · cases ty <;> simp [xtc] at * <;> exact ⟨rfl, rfl⟩
    · cases h
  · cases h
theorem xinB_in {i : Int32} {n : Nat} (h : xinB i n = true) : vp_in i n := by
  simp only [xinB, Bool.and_eq_true, Bool.not_eq_true', decide_eq_false_iff_not, Nat.blt_eq] at h
  intro h2
  rcases h2 with h2 | h2
  · exact h.1 h2
  · omega
theorem xW_new {cy : Nat → ClassId} {ad : xAd} {σ : xM} {c n u q : Nat} {e : va_E} (hq : q = ad.1 (mN σ)) (he : e = xcell cy ad c n (fun _ => 0) (fun _ => 0) (fun _ => none)) : xW cy ad σ ++ [(q, e)] = xW cy ad (sNew σ c n u) := by
  subst hq
  have hN : mN (sNew σ c n u) = mN σ + 1 := rfl
  have hnew : xC cy ad (sNew σ c n u) (mN σ) = e := by
    rw [he]
    show xcell cy ad (va_up (mK σ) (mN σ) c (mN σ)) (va_up (mL σ) (mN σ) n (mN σ)) (va_up (mI σ) (mN σ) (fun _ => 0) (mN σ)) (va_up (mJ σ) (mN σ) (fun _ => 0) (mN σ)) (va_up (mR σ) (mN σ) (fun _ => none) (mN σ)) = _
    simp only [va_up_self]
  have hold : ∀ b, b ≠ mN σ → xC cy ad (sNew σ c n u) b = xC cy ad σ b := fun b hb => by
    show xcell cy ad (va_up (mK σ) (mN σ) c b) (va_up (mL σ) (mN σ) n b) (va_up (mI σ) (mN σ) (fun _ => 0) b) (va_up (mJ σ) (mN σ) (fun _ => 0) b) (va_up (mR σ) (mN σ) (fun _ => none) b) = _
    simp only [va_up_ne _ _ hb]
    rfl
  unfold xW
  rw [hN, List.range_succ, List.map_append, List.map_cons, List.map_nil, hnew]
  congr 1
  exact List.map_congr_left (fun b hb => by rw [hold b (by have := List.mem_range.mp hb; omega)])
end
section
set_option maxRecDepth 30000 in
theorem x_arrI : Cond.arrayClass (newarray.typeOf .int) ∈ lw_tbl := x_t 131 rfl
set_option maxRecDepth 30000 in
theorem x_arrB : Cond.arrayClass (newarray.typeOf .byte) ∈ lw_tbl := x_t 175 rfl
set_option maxRecDepth 30000 in
theorem x_arrJ : Cond.arrayClass (newarray.typeOf .long) ∈ lw_tbl := x_t 176 rfl
set_option maxRecDepth 30000 in
theorem x_obj1 : Cond.instanceMethod objectInit ∈ lw_tbl := x_t 28 rfl
set_option maxRecDepth 30000 in
theorem x_obj2 : Cond.code objectInit ⟨#[0xb1]⟩ 1 none ∈ lw_tbl := x_t 29 rfl
set_option maxRecDepth 30000 in
theorem x_min1 : Cond.static Lib.Math.min.name ∈ lw_tbl := x_t 339 rfl
set_option maxRecDepth 30000 in
theorem x_max1 : Cond.static Lib.Math.max.name ∈ lw_tbl := x_t 743 rfl
set_option maxRecDepth 30000 in
theorem x_min2 : Cond.code Lib.Math.min.name Lib.Math.min.code 2 (some .int) ∈ lw_tbl := x_t 340 rfl
set_option maxRecDepth 30000 in
theorem x_max2 : Cond.code Lib.Math.max.name Lib.Math.max.code 2 (some .int) ∈ lw_tbl := x_t 744 rfl
set_option maxRecDepth 30000 in
theorem x_math : Cond.initialized "java/lang/Math" ∈ lw_tbl := x_t 10 rfl
set_option maxRecDepth 30000 in
theorem x_ac1 : Cond.native arraycopyName ∈ lw_tbl := x_t 465 rfl
set_option maxRecDepth 30000 in
theorem x_ac2 : Cond.static arraycopyName ∈ lw_tbl := x_t 464 rfl
set_option maxRecDepth 30000 in
theorem x_ac3 : Cond.initialized "java/lang/System" ∈ lw_tbl := x_t 11 rfl
theorem x_tyk (c : Nat) (hc : c < 10) (k : Nat) (hk : k < xNF c) : xtc (xkT c k) ≠ 9 := by
  have h : ∀ c, c < 10 → ∀ k, k < xNF c → xtc (xkT c k) ≠ 9 := by decide +kernel
  exact h c hc k hk
/-! a step of the small machine is a step of the machine -/
def xTs : List Cond := lw_tbl.filter goodWord
theorem xTs_of {w : Cond} (h : w ∈ lw_tbl) (hg : goodWord w = true) : w ∈ xTs := List.mem_filter.mpr ⟨h, hg⟩
theorem xTs_lays (c : Nat) (hc : c < 10) : ∀ w ∈ u_ws (xkC c).1 (xkC c).2.1 (xkC c).2.2, w ∈ xTs := by
  intro w hw
  refine xTs_of ((x_kc c hc).2.2.1 w hw) ?_
  obtain ⟨j, -, rfl⟩ := List.mem_map.mp hw
  unfold u_lay
  split <;> rfl
/-- words that aren't among the tables' steady ones: nest mates' links, the array over State, the texts -/
def xZ (sa : UInt32 → Nat) (U : State) : Prop := (∀ e ∈ xFN, va_Nw (xfn e) U) ∧ (∀ e ∈ xVN, va_Nw (xvn e) U) ∧ va_AO "LastAsked$State" U ∧ ∀ e ∈ xKS, vk_R (xR e.1) e.2.1 (xStr.getD e.2.2 "") (sa (UInt32.ofNat e.2.2)) U
theorem xZ.warm {sa : UInt32 → Nat} {s U : State} (hW : s.WarmedH U.vm) (h : xZ sa s) : xZ sa U :=
  ⟨fun e he => va_Nw.warmF hW (h.1 e he), fun e he => va_Nw.warmM hW (h.2.1 e he), va_AO.moved hW.alike h.2.2.1, fun e he => vk_R.warm hW (h.2.2.2 e he)⟩
theorem xZ.same {sa : UInt32 → Nat} {u U : State} (hv : u.vm = U.vm) (h : xZ sa u) : xZ sa U :=
  ⟨fun e he => va_Nw.same rfl hv (h.1 e he), fun e he => va_Nw.same rfl hv (h.2.1 e he), va_AO.moved (by rw [hv]; exact Vm.Alike.refl _) h.2.2.1, fun e he => vk_R.same hv.symm (h.2.2.2 e he)⟩
theorem xl1 {b : ByteArray} {pc n len : Nat} {i : Instr} (hx : xlen i = n) (hn : n ≠ 0) (h : xlen i = 0 ∨ xlen i = len) (hd : decode b pc = .ok (i, len)) : decode b pc = .ok (i, n) := by
  rcases h with h | h
  · exact absurd (hx.symm.trans h) hn
  · rw [← hx, h]; exact hd
theorem xinj {a a' : Nat} {b b' c c' : List Value} {d d' : xM} (h : (some (a, b, c, d) : Option xSt) = some (a', b', c', d')) : a = a' ∧ b = b' ∧ c = c' ∧ d = d' := by
  cases h
  exact ⟨rfl, rfl, rfl, rfl⟩
section XS
variable {p : Program} {l : Launch} {e : Env} {R : Room} {s : State} {m : MethodId} {args : Array Value} {below : List Frame} {meth : Method} {c : Code} {Q : State → Prop} {dd : va_G} {cy : Nat → ClassId} {z : Nat} {sa : UInt32 → Nat} {n0 u0 : Nat}
theorem x_ldcwS (hexec : p.tables.exec = Jvm.exec) {cc : ByteArray} (hb : c.code = cc) {H : Heap} {locs : List Loc} {cells slots pc : Nat} {ls : Array Slot} {rest : List Value} {own tx : String} {index q : Nat} (hown : s.vm.findClass own = some m.cls) (hZ : vk_R own index tx q s) (hdg : decode cc pc = .ok (.ldc_w index, 3))
    (k : W p l e R s m args below meth c H locs cells slots Q (F0 m (pc + 3) ls (.ref q :: rest))) : W p l e R s m args below meth c H locs cells slots Q (F0 m pc ls rest) := by
  intro T hT X
  obtain ⟨t, a1, b1⟩ := k T hT X
  refine ⟨t, ?_, b1⟩
  subst hb
  obtain ⟨k, cf, i, a', hk, hcf, hcp, -, hr, hev'⟩ := Cond.stringRef_spec hown hZ.1
  cases hZ.2.symm.trans hev'
  obtain ⟨k', hk', he⟩ := X.warmed.alike.2.2 _ _ hk
  have hr' : k'.resolved[index]? = some (some (.string q)) := by
    rcases X.warmed.entry hk hk' index with h | ⟨h, -⟩
    · rw [h]; exact hr
    · rw [hr] at h; cases h
  jvm_step X.here [hexec, hdg, ldc_w.wp_string (e := e) (s := T) (f := F0 m pc ls rest) X.here.top hk' (by rw [he]; exact hcf) hcp hr']
  exact a1
def xCx (dd : va_G) (cy : Nat → ClassId) (sa : UInt32 → Nat) (p : Program) (s : State) (m : MethodId) (args : Array Value) (meth : Method) (c : Code) (k : Nat) : Prop :=
  p.tables.exec = Jvm.exec ∧ c.code = (xE k).2.1 ∧ c.maxLocals = (xE k).2.2.1 ∧ s.vm.findClass (xR (xE k).2.2.2.2.1) = some m.cls ∧ (∀ w ∈ xTs, w.before args s = true) ∧ meth.name = (xE k).1.name ∧ va_K dd vwC2 (xty cy) s ∧ xZ sa s
def xG (p : Program) (l : Launch) (e : Env) (R : Room) (s : State) (m : MethodId) (args : Array Value) (below : List Frame) (meth : Method) (c : Code) (Q : State → Prop) (dd : va_G) (cy : Nat → ClassId) (z : Nat) (sa : UInt32 → Nat) (n0 u0 : Nat) (pc : Nat) (ls st : List Value) (σ : xM) : Prop :=
  ∀ (arr : Array Slot) (H : Heap) (locs : List Loc), xL (xad z sa) ls arr c.maxLocals → va_P dd vwC2 (xW cy (xad z sa) σ) H → n0 ≤ mN σ → u0 ≤ mU σ → va_S (fun q => z ≤ q) s.heap H locs → W p l e R s m args below meth c H locs (mN σ - n0) (mU σ - u0) Q (F0 m pc arr (st.map (xv (xad z sa))))
/-- the heap's size is known -/
theorem x_size {σ : xM} {H : Heap} {locs : List Loc} {g : JFrame} {cells slots : Nat} (hz : s.heap.size = z + n0) (hP : va_P dd vwC2 (xW cy (xad z sa) σ) H) (h0 : n0 ≤ mN σ) (hc : cells = mN σ - n0) (hS : va_S (fun q => z ≤ q) s.heap H locs)
    (kk : H.size = z + mN σ → W p l e R s m args below meth c H locs cells slots Q g) : W p l e R s m args below meth c H locs cells slots Q g := by
  intro T hT X
  have h1 := X.heapSize
  rw [hT] at h1
  have h2 := hS.1
  refine kk ?_ T hT X
  rcases Nat.lt_or_ge n0 (mN σ) with h3 | h3
  · have h4 := (hP (mN σ - 1) _ (xW_at cy (xad z sa) σ (by omega))).lt
    have h5 : z + (mN σ - 1) < H.size := h4
    omega
  · omega
/-- a new cell's address is known -/
theorem x_fresh {σ : xM} {H : Heap} {locs : List Loc} {g : Nat → JFrame} {cells slots q : Nat} {en : va_E} (hz : s.heap.size = z + n0) (h0 : n0 ≤ mN σ) (hc : cells = mN σ - n0 + 1) (hP : va_P dd vwC2 (xW cy (xad z sa) σ ++ [(q, en)]) H) (hD : va_D (fun q => z ≤ q) (xW cy (xad z sa) σ ++ [(q, en)]))
    (kk : q = (xad z sa).1 (mN σ) → W p l e R s m args below meth c H locs cells slots Q (g q)) : W p l e R s m args below meth c H locs cells slots Q (g q) := by
  intro T hT X
  have h1 := X.heapSize
  rw [hT] at h1
  refine kk ?_ T hT X
  have hlen : (xW cy (xad z sa) σ).length = mN σ := by simp [xW]
  have hq : (xW cy (xad z sa) σ ++ [(q, en)])[mN σ]? = some (q, en) := by
    rw [List.getElem?_append_right (by omega), hlen]
    simp
  have h2 := (hP (mN σ) _ hq).lt
  have h3 := hD.2 (mN σ) _ hq
  show q = z + mN σ
  simp only at h2 h3
  by_cases h5 : q = z + mN σ
  · exact h5
  · exfalso
    have h6 : q - z < mN σ := by omega
    have h7 : (xW cy (xad z sa) σ ++ [(q, en)])[q - z]? = some ((xad z sa).1 (q - z), xC cy (xad z sa) σ (q - z)) := by
      rw [List.getElem?_append_left (by omega)]
      exact xW_at cy (xad z sa) σ h6
    have h8 := hD.1 (q - z) (mN σ) _ _ h7 hq (show z + (q - z) = q by omega)
    omega
def xOk (i : Instr) : Prop := ∀ (p : Program) (l : Launch) (e : Env) (R : Room) (s : State) (m : MethodId) (args : Array Value) (below : List Frame) (meth : Method) (c : Code) (Q : State → Prop) (dd : va_G) (cy : Nat → ClassId) (z : Nat) (sa : UInt32 → Nat) (n0 u0 : Nat) (k d pc len rn : Nat) (ri : Int32) (rl : Int64) (ls st : List Value) (σ : xM) (pc' : Nat) (ls' st' : List Value) (σ' : xM),
    xCx dd cy sa p s m args meth c k → (d ≤ R.frames ∧ 42 * d ≤ R.locals) → s.heap.size = z + n0 → (mN σ' - n0 ≤ R.cells ∧ mU σ' - u0 ≤ R.slots) → decode (xE k).2.1 pc = .ok (i, len) → (xlen i = 0 ∨ xlen i = len) → xokI (xE k).2.2.2.2.1 (decide ((xE k).1.name = "<init>")) pc i rn ri rl = true →
    xstep d i rn ri rl pc ls st σ = some (pc', ls', st', σ') → xG p l e R s m args below meth c Q dd cy z sa n0 u0 pc' ls' st' σ' → xG p l e R s m args below meth c Q dd cy z sa n0 u0 pc ls st σ
set_option maxHeartbeats 1000000 in
theorem xs_iconst (n : Int) : xOk (.iconst n) := by
  intro p l e R s m args below meth c Q dd cy z sa n0 u0 k d pc len rn ri rl ls st σ pc' ls' st' σ' C hR hz hcap hdg hlen hok h kk
  obtain ⟨hx, hb, hml, hown, hts, hname, hK, hZ⟩ := C
  unfold xstep at h
  dsimp only at h
  cases h
  exact fun arr H locs a1 a2 a4 a5 a6 => lv_iconst hx hb (xl1 rfl (by decide) hlen hdg) (of_decide_eq_true hok) (kk arr H locs a1 a2 a4 a5 a6)
set_option maxHeartbeats 1000000 in
theorem xs_bipush (n : Int) : xOk (.bipush n) := by
  intro p l e R s m args below meth c Q dd cy z sa n0 u0 k d pc len rn ri rl ls st σ pc' ls' st' σ' C hR hz hcap hdg hlen hok h kk
  obtain ⟨hx, hb, hml, hown, hts, hname, hK, hZ⟩ := C
  unfold xstep at h
  dsimp only at h
  cases h
  exact fun arr H locs a1 a2 a4 a5 a6 => lv_bipush hx hb (xl1 rfl (by decide) hlen hdg) (of_decide_eq_true hok) (kk arr H locs a1 a2 a4 a5 a6)
set_option maxHeartbeats 1000000 in
theorem xs_sipush (n : Int) : xOk (.sipush n) := by
  intro p l e R s m args below meth c Q dd cy z sa n0 u0 k d pc len rn ri rl ls st σ pc' ls' st' σ' C hR hz hcap hdg hlen hok h kk
  obtain ⟨hx, hb, hml, hown, hts, hname, hK, hZ⟩ := C
  unfold xstep at h
  dsimp only at h
  cases h
  exact fun arr H locs a1 a2 a4 a5 a6 => lv_sipush hx hb (xl1 rfl (by decide) hlen hdg) (of_decide_eq_true hok) (kk arr H locs a1 a2 a4 a5 a6)
set_option maxHeartbeats 1000000 in
theorem xs_lconst (n : Fin 2) : xOk (.lconst n) := by
  intro p l e R s m args below meth c Q dd cy z sa n0 u0 k d pc len rn ri rl ls st σ pc' ls' st' σ' C hR hz hcap hdg hlen hok h kk
  obtain ⟨hx, hb, hml, hown, hts, hname, hK, hZ⟩ := C
  unfold xstep at h
  dsimp only at h
  cases h
  exact fun arr H locs a1 a2 a4 a5 a6 => lv_lconst hx hb (xl1 rfl (by decide) hlen hdg) (of_decide_eq_true hok) (kk arr H locs a1 a2 a4 a5 a6)
set_option maxHeartbeats 1000000 in
theorem xs_ldc (ix : Nat) : xOk (.ldc ix) := by
  intro p l e R s m args below meth c Q dd cy z sa n0 u0 k d pc len rn ri rl ls st σ pc' ls' st' σ' C hR hz hcap hdg hlen hok h kk
  obtain ⟨hx, hb, hml, hown, hts, hname, hK, hZ⟩ := C
  unfold xstep at h
  dsimp only at h
  split at h
  · rename_i hlt
    cases h
    simp only [xokI, if_pos hlt] at hok
    exact fun arr H locs a1 a2 a4 a5 a6 => lv_ldc hx hb hown (hts _ (xTs_of (x_ki (of_decide_eq_true hok)) rfl)) (xl1 rfl (by decide) hlen hdg) (kk arr H locs a1 a2 a4 a5 a6)
  · rename_i hlt
    cases h
    simp only [xokI, if_neg hlt] at hok
    have hv : vk_R (xR (xE k).2.2.2.2.1) ix (xStr.getD (rn - 1000) "") (sa (UInt32.ofNat (rn - 1000))) s := hZ.2.2.2 (_, ix, rn - 1000) (xm3_in hok)
    generalize UInt32.ofNat (rn - 1000) = b at kk hv
    generalize xStr.getD (rn - 1000) "" = tx at hv
    intro arr H locs a1 a2 a4 a5 a6
    have hk := (kk arr H locs a1 a2 a4 a5 a6)
    exact va_ldcS (q := sa b) hx hb hown hv (xl1 rfl (by decide) hlen hdg) hk
set_option maxHeartbeats 1000000 in
theorem xs_ldc_w (ix : Nat) : xOk (.ldc_w ix) := by
  intro p l e R s m args below meth c Q dd cy z sa n0 u0 k d pc len rn ri rl ls st σ pc' ls' st' σ' C hR hz hcap hdg hlen hok h kk
  obtain ⟨hx, hb, hml, hown, hts, hname, hK, hZ⟩ := C
  unfold xstep at h
  dsimp only at h
  split at h
  · rename_i hlt
    cases h
    simp only [xokI, if_pos hlt] at hok
    exact fun arr H locs a1 a2 a4 a5 a6 => lv_ldcw hx hb hown (hts _ (xTs_of (x_ki (of_decide_eq_true hok)) rfl)) (xl1 rfl (by decide) hlen hdg) (kk arr H locs a1 a2 a4 a5 a6)
  · rename_i hlt
    cases h
    simp only [xokI, if_neg hlt] at hok
    have hv : vk_R (xR (xE k).2.2.2.2.1) ix (xStr.getD (rn - 1000) "") (sa (UInt32.ofNat (rn - 1000))) s := hZ.2.2.2 (_, ix, rn - 1000) (xm3_in hok)
    generalize UInt32.ofNat (rn - 1000) = b at kk hv
    generalize xStr.getD (rn - 1000) "" = tx at hv
    intro arr H locs a1 a2 a4 a5 a6
    have hk := (kk arr H locs a1 a2 a4 a5 a6)
    exact x_ldcwS (q := sa b) hx hb hown hv (xl1 rfl (by decide) hlen hdg) hk
set_option maxHeartbeats 1000000 in
theorem xs_ldc2_w (ix : Nat) : xOk (.ldc2_w ix) := by
  intro p l e R s m args below meth c Q dd cy z sa n0 u0 k d pc len rn ri rl ls st σ pc' ls' st' σ' C hR hz hcap hdg hlen hok h kk
  obtain ⟨hx, hb, hml, hown, hts, hname, hK, hZ⟩ := C
  unfold xstep at h
  dsimp only at h
  cases h
  exact fun arr H locs a1 a2 a4 a5 a6 => lv_ldc2 hx hb hown (hts _ (xTs_of (x_kl (of_decide_eq_true hok)) rfl)) (xl1 rfl (by decide) hlen hdg) (kk arr H locs a1 a2 a4 a5 a6)
set_option maxHeartbeats 1000000 in
theorem xs_iload_n (n : Fin 4) : xOk (.iload_n n) := by
  intro p l e R s m args below meth c Q dd cy z sa n0 u0 k d pc len rn ri rl ls st σ pc' ls' st' σ' C hR hz hcap hdg hlen hok h kk
  obtain ⟨hx, hb, hml, hown, hts, hname, hK, hZ⟩ := C
  unfold xstep at h
  dsimp only at h
  split at h
  · rename_i hh
    cases h
    exact fun arr H locs a1 a2 a4 a5 a6 => lv_iload_n hx hb (xl1 rfl (by decide) hlen hdg) rfl (a1.int hh) (kk arr H locs a1 a2 a4 a5 a6)
  · cases h
set_option maxHeartbeats 1000000 in
theorem xs_iload (n : Nat) : xOk (.iload n) := by
  intro p l e R s m args below meth c Q dd cy z sa n0 u0 k d pc len rn ri rl ls st σ pc' ls' st' σ' C hR hz hcap hdg hlen hok h kk
  obtain ⟨hx, hb, hml, hown, hts, hname, hK, hZ⟩ := C
  unfold xstep at h
  dsimp only at h
  split at h
  · rename_i hh
    cases h
    exact fun arr H locs a1 a2 a4 a5 a6 => lv_iload hx hb (xl1 rfl (by decide) hlen hdg) (a1.int hh) (kk arr H locs a1 a2 a4 a5 a6)
  · cases h
set_option maxHeartbeats 1000000 in
theorem xs_lload_n (n : Fin 4) : xOk (.lload_n n) := by
  intro p l e R s m args below meth c Q dd cy z sa n0 u0 k d pc len rn ri rl ls st σ pc' ls' st' σ' C hR hz hcap hdg hlen hok h kk
  obtain ⟨hx, hb, hml, hown, hts, hname, hK, hZ⟩ := C
  unfold xstep at h
  dsimp only at h
  split at h
  · rename_i hh hh2
    cases h
    exact fun arr H locs a1 a2 a4 a5 a6 => lv_lload_n hx hb (xl1 rfl (by decide) hlen hdg) rfl (a1.long hh hh2) (kk arr H locs a1 a2 a4 a5 a6)
  · cases h
set_option maxHeartbeats 1000000 in
theorem xs_lload (n : Nat) : xOk (.lload n) := by
  intro p l e R s m args below meth c Q dd cy z sa n0 u0 k d pc len rn ri rl ls st σ pc' ls' st' σ' C hR hz hcap hdg hlen hok h kk
  obtain ⟨hx, hb, hml, hown, hts, hname, hK, hZ⟩ := C
  unfold xstep at h
  dsimp only at h
  split at h
  · rename_i hh hh2
    cases h
    exact fun arr H locs a1 a2 a4 a5 a6 => lv_lload hx hb (xl1 rfl (by decide) hlen hdg) (a1.long hh hh2) (kk arr H locs a1 a2 a4 a5 a6)
  · cases h
set_option maxHeartbeats 1000000 in
theorem xs_aload_n (n : Fin 4) : xOk (.aload_n n) := by
  intro p l e R s m args below meth c Q dd cy z sa n0 u0 k d pc len rn ri rl ls st σ pc' ls' st' σ' C hR hz hcap hdg hlen hok h kk
  obtain ⟨hx, hb, hml, hown, hts, hname, hK, hZ⟩ := C
  unfold xstep at h
  dsimp only at h
  split at h
  · rename_i hh
    cases h
    exact fun arr H locs a1 a2 a4 a5 a6 => lv_aload_n hx hb (xl1 rfl (by decide) hlen hdg) rfl (a1.ref hh) (kk arr H locs a1 a2 a4 a5 a6)
  · rename_i hh
    cases h
    exact fun arr H locs a1 a2 a4 a5 a6 => lv_aload_n hx hb (xl1 rfl (by decide) hlen hdg) rfl (a1.text hh) (kk arr H locs a1 a2 a4 a5 a6)
  · cases h
set_option maxHeartbeats 1000000 in
theorem xs_aload (n : Nat) : xOk (.aload n) := by
  intro p l e R s m args below meth c Q dd cy z sa n0 u0 k d pc len rn ri rl ls st σ pc' ls' st' σ' C hR hz hcap hdg hlen hok h kk
  obtain ⟨hx, hb, hml, hown, hts, hname, hK, hZ⟩ := C
  unfold xstep at h
  dsimp only at h
  split at h
  · rename_i hh
    cases h
    exact fun arr H locs a1 a2 a4 a5 a6 => lv_aload hx hb (xl1 rfl (by decide) hlen hdg) (a1.ref hh) (kk arr H locs a1 a2 a4 a5 a6)
  · cases h
set_option maxHeartbeats 1000000 in
theorem xs_istore_n (n : Fin 4) : xOk (.istore_n n) := by
  intro p l e R s m args below meth c Q dd cy z sa n0 u0 k d pc len rn ri rl ls st σ pc' ls' st' σ' C hR hz hcap hdg hlen hok h kk
  obtain ⟨hx, hb, hml, hown, hts, hname, hK, hZ⟩ := C
  unfold xstep at h
  dsimp only at h
  split at h
  · split at h
    · rename_i hlt
      cases h
      exact fun arr H locs a1 a2 a4 a5 a6 => lv_istore_n hx hb (xl1 rfl (by decide) hlen hdg) rfl a1.2 (a1.1 ▸ hlt) rfl (fun arr2 hl => kk arr2 H locs (xL_set1 rfl a1.1 hl) a2 a4 a5 a6)
    · cases h
  · cases h
set_option maxHeartbeats 1000000 in
theorem xs_istore (n : Nat) : xOk (.istore n) := by
  intro p l e R s m args below meth c Q dd cy z sa n0 u0 k d pc len rn ri rl ls st σ pc' ls' st' σ' C hR hz hcap hdg hlen hok h kk
  obtain ⟨hx, hb, hml, hown, hts, hname, hK, hZ⟩ := C
  unfold xstep at h
  dsimp only at h
  split at h
  · split at h
    · rename_i hlt
      cases h
      exact fun arr H locs a1 a2 a4 a5 a6 => lv_istore hx hb (xl1 rfl (by decide) hlen hdg) a1.2 (a1.1 ▸ hlt) rfl (fun arr2 hl => kk arr2 H locs (xL_set1 rfl a1.1 hl) a2 a4 a5 a6)
    · cases h
  · cases h
set_option maxHeartbeats 1000000 in
theorem xs_lstore_n (n : Fin 4) : xOk (.lstore_n n) := by
  intro p l e R s m args below meth c Q dd cy z sa n0 u0 k d pc len rn ri rl ls st σ pc' ls' st' σ' C hR hz hcap hdg hlen hok h kk
  obtain ⟨hx, hb, hml, hown, hts, hname, hK, hZ⟩ := C
  unfold xstep at h
  dsimp only at h
  split at h
  · split at h
    · rename_i hlt
      cases h
      exact fun arr H locs a1 a2 a4 a5 a6 => lv_lstore_n hx hb (xl1 rfl (by decide) hlen hdg) rfl a1.2 (a1.1 ▸ hlt) rfl (fun arr2 hl => kk arr2 H locs (xL_set2 a1.1 hl) a2 a4 a5 a6)
    · cases h
  · cases h
set_option maxHeartbeats 1000000 in
theorem xs_lstore (n : Nat) : xOk (.lstore n) := by
  intro p l e R s m args below meth c Q dd cy z sa n0 u0 k d pc len rn ri rl ls st σ pc' ls' st' σ' C hR hz hcap hdg hlen hok h kk
  obtain ⟨hx, hb, hml, hown, hts, hname, hK, hZ⟩ := C
  unfold xstep at h
  dsimp only at h
  split at h
  · split at h
    · rename_i hlt
      cases h
      exact fun arr H locs a1 a2 a4 a5 a6 => lv_lstore hx hb (xl1 rfl (by decide) hlen hdg) a1.2 (a1.1 ▸ hlt) rfl (fun arr2 hl => kk arr2 H locs (xL_set2 a1.1 hl) a2 a4 a5 a6)
    · cases h
  · cases h
set_option maxHeartbeats 1000000 in
theorem xs_astore_n (n : Fin 4) : xOk (.astore_n n) := by
  intro p l e R s m args below meth c Q dd cy z sa n0 u0 k d pc len rn ri rl ls st σ pc' ls' st' σ' C hR hz hcap hdg hlen hok h kk
  obtain ⟨hx, hb, hml, hown, hts, hname, hK, hZ⟩ := C
  unfold xstep at h
  dsimp only at h
  split at h
  · split at h
    · rename_i hlt
      cases h
      exact fun arr H locs a1 a2 a4 a5 a6 => lv_astore_n hx hb (xl1 rfl (by decide) hlen hdg) rfl a1.2 (a1.1 ▸ hlt) rfl (fun arr2 hl => kk arr2 H locs (xL_set1 rfl a1.1 hl) a2 a4 a5 a6)
    · cases h
  · cases h
set_option maxHeartbeats 1000000 in
theorem xs_iinc (n : Nat) (w : Int) : xOk (.iinc n w) := by
  intro p l e R s m args below meth c Q dd cy z sa n0 u0 k d pc len rn ri rl ls st σ pc' ls' st' σ' C hR hz hcap hdg hlen hok h kk
  obtain ⟨hx, hb, hml, hown, hts, hname, hK, hZ⟩ := C
  unfold xstep at h
  dsimp only at h
  split at h
  · rename_i x hh
    cases h
    intro arr H locs a1 a2 a4 a5 a6
    have hc1 := xcl_of (ad := xad z sa) (ls := ls) (i := n) (q := (n, Value.int x)) (by simp only [xclaim, hh])
    obtain ⟨kq, hkq⟩ := List.getElem?_of_mem hc1
    exact lv_iinc hx hb (xl1 rfl (by decide) hlen hdg) a1.2 hkq (by rw [of_decide_eq_true hok]) (a1.1 ▸ (List.getElem?_eq_some_iff.mp hh).1) rfl (fun arr2 hl => kk arr2 H locs (xL_set1 rfl a1.1 hl) a2 a4 a5 a6)
  · cases h
set_option maxHeartbeats 1000000 in
theorem xs_iadd : xOk (.iadd) := by
  intro p l e R s m args below meth c Q dd cy z sa n0 u0 k d pc len rn ri rl ls st σ pc' ls' st' σ' C hR hz hcap hdg hlen hok h kk
  obtain ⟨hx, hb, hml, hown, hts, hname, hK, hZ⟩ := C
  unfold xstep at h
  dsimp only at h
  split at h
  · cases h
    exact fun arr H locs a1 a2 a4 a5 a6 => lv_iadd hx hb (xl1 rfl (by decide) hlen hdg) (kk arr H locs a1 a2 a4 a5 a6)
  · cases h
set_option maxHeartbeats 1000000 in
theorem xs_isub : xOk (.isub) := by
  intro p l e R s m args below meth c Q dd cy z sa n0 u0 k d pc len rn ri rl ls st σ pc' ls' st' σ' C hR hz hcap hdg hlen hok h kk
  obtain ⟨hx, hb, hml, hown, hts, hname, hK, hZ⟩ := C
  unfold xstep at h
  dsimp only at h
  split at h
  · cases h
    exact fun arr H locs a1 a2 a4 a5 a6 => lv_isub hx hb (xl1 rfl (by decide) hlen hdg) (kk arr H locs a1 a2 a4 a5 a6)
  · cases h
set_option maxHeartbeats 1000000 in
theorem xs_imul : xOk (.imul) := by
  intro p l e R s m args below meth c Q dd cy z sa n0 u0 k d pc len rn ri rl ls st σ pc' ls' st' σ' C hR hz hcap hdg hlen hok h kk
  obtain ⟨hx, hb, hml, hown, hts, hname, hK, hZ⟩ := C
  unfold xstep at h
  dsimp only at h
  split at h
  · cases h
    exact fun arr H locs a1 a2 a4 a5 a6 => lv_imul hx hb (xl1 rfl (by decide) hlen hdg) (kk arr H locs a1 a2 a4 a5 a6)
  · cases h
set_option maxHeartbeats 1000000 in
theorem xs_iand : xOk (.iand) := by
  intro p l e R s m args below meth c Q dd cy z sa n0 u0 k d pc len rn ri rl ls st σ pc' ls' st' σ' C hR hz hcap hdg hlen hok h kk
  obtain ⟨hx, hb, hml, hown, hts, hname, hK, hZ⟩ := C
  unfold xstep at h
  dsimp only at h
  split at h
  · cases h
    exact fun arr H locs a1 a2 a4 a5 a6 => lv_iand hx hb (xl1 rfl (by decide) hlen hdg) (kk arr H locs a1 a2 a4 a5 a6)
  · cases h
set_option maxHeartbeats 1000000 in
theorem xs_ior : xOk (.ior) := by
  intro p l e R s m args below meth c Q dd cy z sa n0 u0 k d pc len rn ri rl ls st σ pc' ls' st' σ' C hR hz hcap hdg hlen hok h kk
  obtain ⟨hx, hb, hml, hown, hts, hname, hK, hZ⟩ := C
  unfold xstep at h
  dsimp only at h
  split at h
  · cases h
    exact fun arr H locs a1 a2 a4 a5 a6 => lv_ior hx hb (xl1 rfl (by decide) hlen hdg) (kk arr H locs a1 a2 a4 a5 a6)
  · cases h
set_option maxHeartbeats 1000000 in
theorem xs_ixor : xOk (.ixor) := by
  intro p l e R s m args below meth c Q dd cy z sa n0 u0 k d pc len rn ri rl ls st σ pc' ls' st' σ' C hR hz hcap hdg hlen hok h kk
  obtain ⟨hx, hb, hml, hown, hts, hname, hK, hZ⟩ := C
  unfold xstep at h
  dsimp only at h
  split at h
  · cases h
    exact fun arr H locs a1 a2 a4 a5 a6 => lv_ixor hx hb (xl1 rfl (by decide) hlen hdg) (kk arr H locs a1 a2 a4 a5 a6)
  · cases h
set_option maxHeartbeats 1000000 in
theorem xs_ishl : xOk (.ishl) := by
  intro p l e R s m args below meth c Q dd cy z sa n0 u0 k d pc len rn ri rl ls st σ pc' ls' st' σ' C hR hz hcap hdg hlen hok h kk
  obtain ⟨hx, hb, hml, hown, hts, hname, hK, hZ⟩ := C
  unfold xstep at h
  dsimp only at h
  split at h
  · cases h
    exact fun arr H locs a1 a2 a4 a5 a6 => lv_ishl hx hb (xl1 rfl (by decide) hlen hdg) (kk arr H locs a1 a2 a4 a5 a6)
  · cases h
set_option maxHeartbeats 1000000 in
theorem xs_ishr : xOk (.ishr) := by
  intro p l e R s m args below meth c Q dd cy z sa n0 u0 k d pc len rn ri rl ls st σ pc' ls' st' σ' C hR hz hcap hdg hlen hok h kk
  obtain ⟨hx, hb, hml, hown, hts, hname, hK, hZ⟩ := C
  unfold xstep at h
  dsimp only at h
  split at h
  · cases h
    exact fun arr H locs a1 a2 a4 a5 a6 => lv_ishr hx hb (xl1 rfl (by decide) hlen hdg) (kk arr H locs a1 a2 a4 a5 a6)
  · cases h
set_option maxHeartbeats 1000000 in
theorem xs_iushr : xOk (.iushr) := by
  intro p l e R s m args below meth c Q dd cy z sa n0 u0 k d pc len rn ri rl ls st σ pc' ls' st' σ' C hR hz hcap hdg hlen hok h kk
  obtain ⟨hx, hb, hml, hown, hts, hname, hK, hZ⟩ := C
  unfold xstep at h
  dsimp only at h
  split at h
  · cases h
    exact fun arr H locs a1 a2 a4 a5 a6 => lv_iushr hx hb (xl1 rfl (by decide) hlen hdg) rfl (kk arr H locs a1 a2 a4 a5 a6)
  · cases h
set_option maxHeartbeats 1000000 in
theorem xs_idiv : xOk (.idiv) := by
  intro p l e R s m args below meth c Q dd cy z sa n0 u0 k d pc len rn ri rl ls st σ pc' ls' st' σ' C hR hz hcap hdg hlen hok h kk
  obtain ⟨hx, hb, hml, hown, hts, hname, hK, hZ⟩ := C
  unfold xstep at h
  dsimp only at h
  split at h
  · split at h
    · cases h
    · rename_i hne
      cases h
      exact fun arr H locs a1 a2 a4 a5 a6 => lv_idiv hx hb (xl1 rfl (by decide) hlen hdg) hne (kk arr H locs a1 a2 a4 a5 a6)
  · cases h
set_option maxHeartbeats 1000000 in
theorem xs_irem : xOk (.irem) := by
  intro p l e R s m args below meth c Q dd cy z sa n0 u0 k d pc len rn ri rl ls st σ pc' ls' st' σ' C hR hz hcap hdg hlen hok h kk
  obtain ⟨hx, hb, hml, hown, hts, hname, hK, hZ⟩ := C
  unfold xstep at h
  dsimp only at h
  split at h
  · split at h
    · cases h
    · rename_i hne
      cases h
      exact fun arr H locs a1 a2 a4 a5 a6 => lv_irem hx hb (xl1 rfl (by decide) hlen hdg) hne (kk arr H locs a1 a2 a4 a5 a6)
  · cases h
set_option maxHeartbeats 1000000 in
theorem xs_ineg : xOk (.ineg) := by
  intro p l e R s m args below meth c Q dd cy z sa n0 u0 k d pc len rn ri rl ls st σ pc' ls' st' σ' C hR hz hcap hdg hlen hok h kk
  obtain ⟨hx, hb, hml, hown, hts, hname, hK, hZ⟩ := C
  unfold xstep at h
  dsimp only at h
  split at h
  · cases h
    exact fun arr H locs a1 a2 a4 a5 a6 => lv_ineg hx hb (xl1 rfl (by decide) hlen hdg) (kk arr H locs a1 a2 a4 a5 a6)
  · cases h
set_option maxHeartbeats 1000000 in
theorem xs_ladd : xOk (.ladd) := by
  intro p l e R s m args below meth c Q dd cy z sa n0 u0 k d pc len rn ri rl ls st σ pc' ls' st' σ' C hR hz hcap hdg hlen hok h kk
  obtain ⟨hx, hb, hml, hown, hts, hname, hK, hZ⟩ := C
  unfold xstep at h
  dsimp only at h
  split at h
  · cases h
    exact fun arr H locs a1 a2 a4 a5 a6 => lv_ladd hx hb (xl1 rfl (by decide) hlen hdg) (kk arr H locs a1 a2 a4 a5 a6)
  · cases h
set_option maxHeartbeats 1000000 in
theorem xs_lmul : xOk (.lmul) := by
  intro p l e R s m args below meth c Q dd cy z sa n0 u0 k d pc len rn ri rl ls st σ pc' ls' st' σ' C hR hz hcap hdg hlen hok h kk
  obtain ⟨hx, hb, hml, hown, hts, hname, hK, hZ⟩ := C
  unfold xstep at h
  dsimp only at h
  split at h
  · cases h
    exact fun arr H locs a1 a2 a4 a5 a6 => lv_lmul hx hb (xl1 rfl (by decide) hlen hdg) (kk arr H locs a1 a2 a4 a5 a6)
  · cases h
set_option maxHeartbeats 1000000 in
theorem xs_lor : xOk (.lor) := by
  intro p l e R s m args below meth c Q dd cy z sa n0 u0 k d pc len rn ri rl ls st σ pc' ls' st' σ' C hR hz hcap hdg hlen hok h kk
  obtain ⟨hx, hb, hml, hown, hts, hname, hK, hZ⟩ := C
  unfold xstep at h
  dsimp only at h
  split at h
  · cases h
    exact fun arr H locs a1 a2 a4 a5 a6 => lv_lor hx hb (xl1 rfl (by decide) hlen hdg) (kk arr H locs a1 a2 a4 a5 a6)
  · cases h
set_option maxHeartbeats 1000000 in
theorem xs_ldiv : xOk (.ldiv) := by
  intro p l e R s m args below meth c Q dd cy z sa n0 u0 k d pc len rn ri rl ls st σ pc' ls' st' σ' C hR hz hcap hdg hlen hok h kk
  obtain ⟨hx, hb, hml, hown, hts, hname, hK, hZ⟩ := C
  unfold xstep at h
  dsimp only at h
  split at h
  · split at h
    · cases h
    · rename_i hne
      cases h
      exact fun arr H locs a1 a2 a4 a5 a6 => lv_ldiv hx hb (xl1 rfl (by decide) hlen hdg) hne (kk arr H locs a1 a2 a4 a5 a6)
  · cases h
set_option maxHeartbeats 1000000 in
theorem xs_lrem : xOk (.lrem) := by
  intro p l e R s m args below meth c Q dd cy z sa n0 u0 k d pc len rn ri rl ls st σ pc' ls' st' σ' C hR hz hcap hdg hlen hok h kk
  obtain ⟨hx, hb, hml, hown, hts, hname, hK, hZ⟩ := C
  unfold xstep at h
  dsimp only at h
  split at h
  · split at h
    · cases h
    · rename_i hne
      cases h
      exact fun arr H locs a1 a2 a4 a5 a6 => lv_lrem hx hb (xl1 rfl (by decide) hlen hdg) hne (kk arr H locs a1 a2 a4 a5 a6)
  · cases h
set_option maxHeartbeats 1000000 in
theorem xs_lshl : xOk (.lshl) := by
  intro p l e R s m args below meth c Q dd cy z sa n0 u0 k d pc len rn ri rl ls st σ pc' ls' st' σ' C hR hz hcap hdg hlen hok h kk
  obtain ⟨hx, hb, hml, hown, hts, hname, hK, hZ⟩ := C
  unfold xstep at h
  dsimp only at h
  split at h
  · cases h
    exact fun arr H locs a1 a2 a4 a5 a6 => lv_lshl hx hb (xl1 rfl (by decide) hlen hdg) rfl (kk arr H locs a1 a2 a4 a5 a6)
  · cases h
set_option maxHeartbeats 1000000 in
theorem xs_lcmp : xOk (.lcmp) := by
  intro p l e R s m args below meth c Q dd cy z sa n0 u0 k d pc len rn ri rl ls st σ pc' ls' st' σ' C hR hz hcap hdg hlen hok h kk
  obtain ⟨hx, hb, hml, hown, hts, hname, hK, hZ⟩ := C
  unfold xstep at h
  dsimp only at h
  split at h
  · cases h
    exact fun arr H locs a1 a2 a4 a5 a6 => W.lcmp hx hb (xl1 rfl (by decide) hlen hdg) (kk arr H locs a1 a2 a4 a5 a6)
  · cases h
set_option maxHeartbeats 1000000 in
theorem xs_i2l : xOk (.i2l) := by
  intro p l e R s m args below meth c Q dd cy z sa n0 u0 k d pc len rn ri rl ls st σ pc' ls' st' σ' C hR hz hcap hdg hlen hok h kk
  obtain ⟨hx, hb, hml, hown, hts, hname, hK, hZ⟩ := C
  unfold xstep at h
  dsimp only at h
  split at h
  · cases h
    exact fun arr H locs a1 a2 a4 a5 a6 => lv_i2l hx hb (xl1 rfl (by decide) hlen hdg) rfl (kk arr H locs a1 a2 a4 a5 a6)
  · cases h
set_option maxHeartbeats 1000000 in
theorem xs_l2i : xOk (.l2i) := by
  intro p l e R s m args below meth c Q dd cy z sa n0 u0 k d pc len rn ri rl ls st σ pc' ls' st' σ' C hR hz hcap hdg hlen hok h kk
  obtain ⟨hx, hb, hml, hown, hts, hname, hK, hZ⟩ := C
  unfold xstep at h
  dsimp only at h
  split at h
  · cases h
    exact fun arr H locs a1 a2 a4 a5 a6 => lv_l2i hx hb (xl1 rfl (by decide) hlen hdg) rfl (kk arr H locs a1 a2 a4 a5 a6)
  · cases h
set_option maxHeartbeats 1000000 in
theorem xs_i2b : xOk (.i2b) := by
  intro p l e R s m args below meth c Q dd cy z sa n0 u0 k d pc len rn ri rl ls st σ pc' ls' st' σ' C hR hz hcap hdg hlen hok h kk
  obtain ⟨hx, hb, hml, hown, hts, hname, hK, hZ⟩ := C
  unfold xstep at h
  dsimp only at h
  split at h
  · cases h
    exact fun arr H locs a1 a2 a4 a5 a6 => lv_i2b hx hb (xl1 rfl (by decide) hlen hdg) rfl (kk arr H locs a1 a2 a4 a5 a6)
  · cases h
set_option maxHeartbeats 1000000 in
theorem xs_dup : xOk (.dup) := by
  intro p l e R s m args below meth c Q dd cy z sa n0 u0 k d pc len rn ri rl ls st σ pc' ls' st' σ' C hR hz hcap hdg hlen hok h kk
  obtain ⟨hx, hb, hml, hown, hts, hname, hK, hZ⟩ := C
  unfold xstep at h
  dsimp only at h
  split at h
  · split at h
    · rename_i hc
      cases h
      exact fun arr H locs a1 a2 a4 a5 a6 => lv_dup hx hb (xl1 rfl (by decide) hlen hdg) (by rw [xv_cat]; exact hc) (kk arr H locs a1 a2 a4 a5 a6)
    · cases h
  · cases h
set_option maxHeartbeats 1000000 in
theorem xs_pop : xOk (.pop) := by
  intro p l e R s m args below meth c Q dd cy z sa n0 u0 k d pc len rn ri rl ls st σ pc' ls' st' σ' C hR hz hcap hdg hlen hok h kk
  obtain ⟨hx, hb, hml, hown, hts, hname, hK, hZ⟩ := C
  unfold xstep at h
  dsimp only at h
  split at h
  · split at h
    · rename_i hc
      cases h
      exact fun arr H locs a1 a2 a4 a5 a6 => lv_pop hx hb (xl1 rfl (by decide) hlen hdg) (by rw [xv_cat]; exact hc) (kk arr H locs a1 a2 a4 a5 a6)
    · cases h
  · cases h
set_option maxHeartbeats 1000000 in
theorem xs_dup2 : xOk (.dup2) := by
  intro p l e R s m args below meth c Q dd cy z sa n0 u0 k d pc len rn ri rl ls st σ pc' ls' st' σ' C hR hz hcap hdg hlen hok h kk
  obtain ⟨hx, hb, hml, hown, hts, hname, hK, hZ⟩ := C
  unfold xstep at h
  dsimp only at h
  split at h
  · split at h
    · rename_i hc
      cases h
      exact fun arr H locs a1 a2 a4 a5 a6 => lv_dup2_11 hx hb (xl1 rfl (by decide) hlen hdg) (by rw [xv_cat]; exact hc.1) (by rw [xv_cat]; exact hc.2) (kk arr H locs a1 a2 a4 a5 a6)
    · cases h
  · cases h
set_option maxHeartbeats 1000000 in
theorem xs_ifCond (cnd : ClassFile.Cond) (off : Int) : xOk (.ifCond cnd off) := by
  intro p l e R s m args below meth c Q dd cy z sa n0 u0 k d pc len rn ri rl ls st σ pc' ls' st' σ' C hR hz hcap hdg hlen hok h kk
  obtain ⟨hx, hb, hml, hown, hts, hname, hK, hZ⟩ := C
  unfold xstep at h
  dsimp only at h
  split at h
  · cases h
    intro arr H locs a1 a2 a4 a5 a6
    have hk := (kk arr H locs a1 a2 a4 a5 a6)
    cases cnd
    · refine lv_if_eq (tgt := rn) hx hb (xl1 rfl (by decide) hlen hdg) (of_decide_eq_true hok) (fun hc => ?_) (fun hc => ?_)
      · rw [show xcmp .eq _ 0 = true from decide_eq_true hc] at hk
        exact hk
      · rw [show xcmp .eq _ 0 = false from decide_eq_false hc] at hk
        exact hk
    · refine lv_if_ne (tgt := rn) hx hb (xl1 rfl (by decide) hlen hdg) (of_decide_eq_true hok) (fun hc => ?_) (fun hc => ?_)
      · rw [show xcmp .ne _ 0 = true from decide_eq_true hc] at hk
        exact hk
      · rw [show xcmp .ne _ 0 = false from decide_eq_false (fun q => q hc)] at hk
        exact hk
    · refine lv_if_lt (tgt := rn) hx hb (xl1 rfl (by decide) hlen hdg) (of_decide_eq_true hok) (fun hc => ?_) (fun hc => ?_)
      · rw [show xcmp .lt _ 0 = true from decide_eq_true hc] at hk
        exact hk
      · rw [show xcmp .lt _ 0 = false from decide_eq_false hc] at hk
        exact hk
    · refine lv_if_ge (tgt := rn) hx hb (xl1 rfl (by decide) hlen hdg) (of_decide_eq_true hok) (fun hc => ?_) (fun hc => ?_)
      · rw [show xcmp .ge _ 0 = true from decide_eq_true hc] at hk
        exact hk
      · rw [show xcmp .ge _ 0 = false from decide_eq_false hc] at hk
        exact hk
    · refine lv_if_gt (tgt := rn) hx hb (xl1 rfl (by decide) hlen hdg) (of_decide_eq_true hok) (fun hc => ?_) (fun hc => ?_)
      · rw [show xcmp .gt _ 0 = true from decide_eq_true hc] at hk
        exact hk
      · rw [show xcmp .gt _ 0 = false from decide_eq_false hc] at hk
        exact hk
    · refine lv_if_le (tgt := rn) hx hb (xl1 rfl (by decide) hlen hdg) (of_decide_eq_true hok) (fun hc => ?_) (fun hc => ?_)
      · rw [show xcmp .le _ 0 = true from decide_eq_true hc] at hk
        exact hk
      · rw [show xcmp .le _ 0 = false from decide_eq_false hc] at hk
        exact hk
  · cases h
set_option maxHeartbeats 1000000 in
theorem xs_if_icmp (cnd : ClassFile.Cond) (off : Int) : xOk (.if_icmp cnd off) := by
  intro p l e R s m args below meth c Q dd cy z sa n0 u0 k d pc len rn ri rl ls st σ pc' ls' st' σ' C hR hz hcap hdg hlen hok h kk
  obtain ⟨hx, hb, hml, hown, hts, hname, hK, hZ⟩ := C
  unfold xstep at h
  dsimp only at h
  split at h
  · cases h
    intro arr H locs a1 a2 a4 a5 a6
    have hk := (kk arr H locs a1 a2 a4 a5 a6)
    cases cnd
    · refine lv_icmp_eq (tgt := rn) hx hb (xl1 rfl (by decide) hlen hdg) (of_decide_eq_true hok) (fun hc => ?_) (fun hc => ?_)
      · rw [show xcmp .eq _ _ = true from decide_eq_true hc] at hk
        exact hk
      · rw [show xcmp .eq _ _ = false from decide_eq_false hc] at hk
        exact hk
    · refine lv_icmp_ne (tgt := rn) hx hb (xl1 rfl (by decide) hlen hdg) (of_decide_eq_true hok) (fun hc => ?_) (fun hc => ?_)
      · rw [show xcmp .ne _ _ = true from decide_eq_true hc] at hk
        exact hk
      · rw [show xcmp .ne _ _ = false from decide_eq_false (fun q => q hc)] at hk
        exact hk
    · refine lv_icmp_lt (tgt := rn) hx hb (xl1 rfl (by decide) hlen hdg) (of_decide_eq_true hok) (fun hc => ?_) (fun hc => ?_)
      · rw [show xcmp .lt _ _ = true from decide_eq_true hc] at hk
        exact hk
      · rw [show xcmp .lt _ _ = false from decide_eq_false hc] at hk
        exact hk
    · refine lv_icmp_ge (tgt := rn) hx hb (xl1 rfl (by decide) hlen hdg) (of_decide_eq_true hok) (fun hc => ?_) (fun hc => ?_)
      · rw [show xcmp .ge _ _ = true from decide_eq_true hc] at hk
        exact hk
      · rw [show xcmp .ge _ _ = false from decide_eq_false hc] at hk
        exact hk
    · refine lv_icmp_gt (tgt := rn) hx hb (xl1 rfl (by decide) hlen hdg) (of_decide_eq_true hok) (fun hc => ?_) (fun hc => ?_)
      · rw [show xcmp .gt _ _ = true from decide_eq_true hc] at hk
        exact hk
      · rw [show xcmp .gt _ _ = false from decide_eq_false hc] at hk
        exact hk
    · refine lv_icmp_le (tgt := rn) hx hb (xl1 rfl (by decide) hlen hdg) (of_decide_eq_true hok) (fun hc => ?_) (fun hc => ?_)
      · rw [show xcmp .le _ _ = true from decide_eq_true hc] at hk
        exact hk
      · rw [show xcmp .le _ _ = false from decide_eq_false hc] at hk
        exact hk
  · cases h
set_option maxHeartbeats 1000000 in
theorem xs_ifnull (off : Int) : xOk (.ifnull off) := by
  intro p l e R s m args below meth c Q dd cy z sa n0 u0 k d pc len rn ri rl ls st σ pc' ls' st' σ' C hR hz hcap hdg hlen hok h kk
  obtain ⟨hx, hb, hml, hown, hts, hname, hK, hZ⟩ := C
  unfold xstep at h
  dsimp only at h
  split at h
  · cases h
    exact fun arr H locs a1 a2 a4 a5 a6 => lv_ifnullN hx hb (xl1 rfl (by decide) hlen hdg) (of_decide_eq_true hok) (kk arr H locs a1 a2 a4 a5 a6)
  · cases h
    exact fun arr H locs a1 a2 a4 a5 a6 => lv_ifnull hx hb (xl1 rfl (by decide) hlen hdg) (kk arr H locs a1 a2 a4 a5 a6)
  · cases h
set_option maxHeartbeats 1000000 in
theorem xs_ifnonnull (off : Int) : xOk (.ifnonnull off) := by
  intro p l e R s m args below meth c Q dd cy z sa n0 u0 k d pc len rn ri rl ls st σ pc' ls' st' σ' C hR hz hcap hdg hlen hok h kk
  obtain ⟨hx, hb, hml, hown, hts, hname, hK, hZ⟩ := C
  unfold xstep at h
  dsimp only at h
  split at h
  · cases h
    exact fun arr H locs a1 a2 a4 a5 a6 => lv_ifnonnullN hx hb (xl1 rfl (by decide) hlen hdg) (kk arr H locs a1 a2 a4 a5 a6)
  · cases h
    exact fun arr H locs a1 a2 a4 a5 a6 => lv_ifnonnull hx hb (xl1 rfl (by decide) hlen hdg) (of_decide_eq_true hok) (kk arr H locs a1 a2 a4 a5 a6)
  · cases h
set_option maxHeartbeats 1000000 in
theorem xs_goto (off : Int) : xOk (.goto off) := by
  intro p l e R s m args below meth c Q dd cy z sa n0 u0 k d pc len rn ri rl ls st σ pc' ls' st' σ' C hR hz hcap hdg hlen hok h kk
  obtain ⟨hx, hb, hml, hown, hts, hname, hK, hZ⟩ := C
  unfold xstep at h
  dsimp only at h
  cases h
  exact fun arr H locs a1 a2 a4 a5 a6 => lv_goto hx hb (xl1 rfl (by decide) hlen hdg) (of_decide_eq_true hok) (kk arr H locs a1 a2 a4 a5 a6)
set_option maxHeartbeats 1000000 in
theorem xs_tableswitch (df : Int) (lo : Int) (hi : Int) (offs : Array Int) : xOk (.tableswitch df lo hi offs) := by
  intro p l e R s m args below meth c Q dd cy z sa n0 u0 k d pc len rn ri rl ls st σ pc' ls' st' σ' C hR hz hcap hdg hlen hok h kk
  obtain ⟨hx, hb, hml, hown, hts, hname, hK, hZ⟩ := C
  unfold xstep at h
  dsimp only at h
  simp only [xokI, Bool.and_eq_true, decide_eq_true_eq] at hok
  split at h
  · split at h
    · rename_i hc
      cases h
      exact fun arr H locs a1 a2 a4 a5 a6 => lv_tableOut hx hb hdg hc (Int.toNat_of_nonneg hok.1).symm (kk arr H locs a1 a2 a4 a5 a6)
    · rename_i hc
      split at h
      · rename_i ho
        cases h
        have hmem := Array.mem_of_getElem? ho
        have hpos := of_decide_eq_true (List.all_eq_true.mp hok.2 _ (Array.mem_toList_iff.mpr hmem))
        exact fun arr H locs a1 a2 a4 a5 a6 => lv_tableIn hx hb hdg (fun q => hc (Or.inl q)) (fun q => hc (Or.inr q)) ho (Int.toNat_of_nonneg hpos).symm (kk arr H locs a1 a2 a4 a5 a6)
      · cases h
  · cases h
set_option maxHeartbeats 1000000 in
theorem xs_getfield (ix : Nat) : xOk (.getfield ix) := by
  intro p l e R s m args below meth c Q dd cy z sa n0 u0 k d pc len rn ri rl ls st σ pc' ls' st' σ' C hR hz hcap hdg hlen hok h kk
  obtain ⟨hx, hb, hml, hown, hts, hname, hK, hZ⟩ := C
  unfold xstep at h
  dsimp only at h
  simp only [xokI, Bool.and_eq_true, Bool.or_eq_true, Nat.blt_eq] at hok
  split at h
  · rename_i a r
    obtain ⟨ci, hci⟩ : ∃ ci, rn / 100 = ci := ⟨_, rfl⟩
    obtain ⟨fk, hfk⟩ : ∃ fk, rn % 100 = fk := ⟨_, rfl⟩
    simp only [hci, hfk] at h hok
    cases hg : (Nat.blt a (mN σ) && Nat.beq (mK σ a) (ci)) with
    | false => rw [hg] at h; cases h
    | true =>
      rw [hg] at h
      cases h
      simp only [Bool.and_eq_true, Nat.blt_eq, Nat.beq_eq] at hg
      obtain ⟨⟨hc, hf⟩, hl⟩ := hok
      obtain ⟨k0, k2, -, -, -, k6⟩ := x_kc _ hc
      have k1 := x_k2 k0
      intro arr H locs a1 a2 a4 a5 a6
      have hk := (kk arr H locs a1 a2 a4 a5 a6)
      have he : (xW cy (xad z sa) σ)[a]? = some ((xad z sa).1 a, .inr (ci, _)) := (xW_at cy (xad z sa) σ hg.1).trans (by rw [xC_obj hg.2 hc])
      have hv : ((List.range (xNF (ci))).map (fun k => xfv (xad z sa) (xT (ci) k) (mI σ a k) (mJ σ a k) (mR σ a k)))[fk]? = some (xfv (xad z sa) (xT (ci) (fk)) (mI σ a (fk)) (mJ σ a (fk)) (mR σ a (fk))) := by
        simp [hf]
      have hsame : ∀ x, s.fieldFound? ((xkC (ci)).2.1 (fk)).1 ((xkC (ci)).2.1 (fk)).2.1 ((xkC (ci)).2.1 (fk)).2.2.1 = some x → s.fieldFound? (xkC (ci)).1 ((xkC (ci)).2.1 (fk)).2.1 ((xkC (ci)).2.1 (fk)).2.2.1 = some x := by
        rw [(k6 _ (by rw [k2]; exact hf)).2]
        exact fun _ h => h
      rcases hl with hl | hl
      · exact va_get (Ts := xTs) hx hb hts (xTs_lays _ hc) hown hK a2 a he k1 (fk) (by rw [k2]; exact hf) (hts _ (xTs_of (w := .fieldLink (xR (xE k).2.2.2.2.1) ix (xkC ci).1 ((xkC ci).2.1 fk).2.1 ((xkC ci).2.1 fk).2.2.1) (by have hw := x_fl (xm3_in hl); simp only [xfw, hci, hfk] at hw; exact hw) rfl)) hsame hv (xl1 rfl (by decide) hlen hdg) hk
      · exact va_getN (Ts := xTs) (host := xHost (xE k).2.2.2.2.1) hx hb hts (xTs_lays _ hc) hown hK a2 a he k1 (fk) (by rw [k2]; exact hf) (va_Nw.use (w := .fieldLinkNest (xR (xE k).2.2.2.2.1) ix (xkC ci).1 ((xkC ci).2.1 fk).2.1 ((xkC ci).2.1 fk).2.2.1 (xHost (xE k).2.2.2.2.1)) rfl (by have hw := hZ.1 _ (xm3_in hl); simp only [xfn, hci, hfk] at hw; exact hw)) hsame hv (xl1 rfl (by decide) hlen hdg) hk
  · cases h
set_option maxHeartbeats 1000000 in
theorem xs_putfield (ix : Nat) : xOk (.putfield ix) := by
  intro p l e R s m args below meth c Q dd cy z sa n0 u0 k d pc len rn ri rl ls st σ pc' ls' st' σ' C hR hz hcap hdg hlen hok h kk
  obtain ⟨hx, hb, hml, hown, hts, hname, hK, hZ⟩ := C
  unfold xstep at h
  dsimp only at h
  simp only [xokI, Bool.and_eq_true, Bool.or_eq_true, Nat.blt_eq, Bool.not_eq_true', Nat.beq_eq] at hok
  split at h
  · rename_i v a r
    obtain ⟨ci, hci⟩ : ∃ ci, rn / 100 = ci := ⟨_, rfl⟩
    obtain ⟨fk, hfk⟩ : ∃ fk, rn % 100 = fk := ⟨_, rfl⟩
    simp only [hci, hfk] at h hok
    cases hg : (Nat.blt a (mN σ) && Nat.beq (mK σ a) (ci)) with
    | false => rw [hg] at h; cases h
    | true =>
      rw [hg] at h
      simp only [cond_true] at h
      split at h
      · rename_i σ1 hfp
        obtain ⟨rfl, rfl, rfl, rfl⟩ := xinj h
        simp only [Bool.and_eq_true, Nat.blt_eq, Nat.beq_eq] at hg
        obtain ⟨⟨hc, hf⟩, hl⟩ := hok
        obtain ⟨k0, k2, -, k4, k5, k6⟩ := x_kc _ hc
        have k1 := x_k2 k0
        have hkN : fk < (xkC (ci)).2.2 := by rw [k2]; exact hf
        obtain ⟨f1, f2, f3, f4⟩ := xfp_ok (cy := cy) (ad := xad z sa) hc hg.2 rfl hfp
        rw [← (k6 _ hkN).1] at hfp
        obtain ⟨g1, g2⟩ := xfp_ty (ad := xad z sa) hfp
        intro arr H locs a1 a2 a4 a5 a6
        have he : (xW cy (xad z sa) σ)[a]? = some ((xad z sa).1 a, .inr (ci, _)) := (xW_at cy (xad z sa) σ hg.1).trans (by rw [xC_obj hg.2 hc])
        have hsame : ∀ x, s.fieldFound? ((xkC (ci)).2.1 (fk)).1 ((xkC (ci)).2.1 (fk)).2.1 ((xkC (ci)).2.1 (fk)).2.2.1 = some x → s.fieldFound? (xkC (ci)).1 ((xkC (ci)).2.1 (fk)).2.1 ((xkC (ci)).2.1 (fk)).2.2.1 = some x := by
          rw [(k6 _ hkN).2]
          exact fun _ h => h
        have go : ∀ (H1 : Heap) (locs1 : List Loc), va_P dd vwC2 ((xW cy (xad z sa) σ).set a ((xad z sa).1 a, .inr (ci, ((List.range (xNF (ci))).map (fun j => xfv (xad z sa) (xT (ci) j) (mI σ a j) (mJ σ a j) (mR σ a j))).set (fk) (xv (xad z sa) v)))) H1 → va_D (fun q => z ≤ q) ((xW cy (xad z sa) σ).set a ((xad z sa).1 a, .inr (ci, ((List.range (xNF (ci))).map (fun j => xfv (xad z sa) (xT (ci) j) (mI σ a j) (mJ σ a j) (mR σ a j))).set (fk) (xv (xad z sa) v)))) → va_S (fun q => z ≤ q) s.heap H1 locs1 → W p l e R s m args below meth c H1 locs1 (mN σ - n0) (mU σ - u0) Q (F0 m (pc + 3) arr (r.map (xv (xad z sa)))) := by
          intro H1 locs1 b1 b2 b3
          rw [xW_set f1 f4 f3] at b1
          have hk := kk arr H1 locs1 a1 b1 (by rw [f1]; exact a4) (by rw [f2]; exact a5) b3
          rw [f1, f2] at hk
          exact hk
        rcases hl with ⟨hfin, hl⟩ | ⟨⟨⟨hfin, hini⟩, ho⟩, hl⟩
        · rcases hl with hl | hl
          · exact va_put (Ts := xTs) hx hb hts (xTs_lays _ hc) (xkT (ci)) k4 k5 hown hK a2 xW_D a6 a he k1 (fk) hkN (hts _ (xTs_of (w := .fieldLink (xR (xE k).2.2.2.2.1) ix (xkC ci).1 ((xkC ci).2.1 fk).2.1 ((xkC ci).2.1 fk).2.2.1) (by have hw := x_fl (xm3_in hl); simp only [xfw, hci, hfk] at hw; exact hw) rfl)) hsame hfin (k4 _ hkN) g1 g2 (by simp [hf]) (xl1 rfl (by decide) hlen hdg) go
          · exact va_putN (Ts := xTs) (host := xHost (xE k).2.2.2.2.1) hx hb hts (xTs_lays _ hc) (xkT (ci)) k4 k5 hown hK a2 xW_D a6 a he k1 (fk) hkN (va_Nw.use (w := .fieldLinkNest (xR (xE k).2.2.2.2.1) ix (xkC ci).1 ((xkC ci).2.1 fk).2.1 ((xkC ci).2.1 fk).2.2.1 (xHost (xE k).2.2.2.2.1)) rfl (by have hw := hZ.1 _ (xm3_in hl); simp only [xfn, hci, hfk] at hw; exact hw)) hsame hfin (k4 _ hkN) g1 g2 (by simp [hf]) (xl1 rfl (by decide) hlen hdg) go
        · have hR0 : (xkC (ci)).1 = xR (xE k).2.2.2.2.1 := by
            rw [← ho]
            rcases (show ci = 0 ∨ ci = 1 ∨ ci = 2 ∨ ci = 3 ∨ ci = 4 ∨ ci = 5 ∨ ci = 6 ∨ ci = 7 ∨ ci = 8 ∨ ci = 9 by omega) with q | q | q | q | q | q | q | q | q | q <;> rw [q] <;> rfl
          exact va_putF (Ts := xTs) hx hb hts (xTs_lays _ hc) (xkT (ci)) k4 k5 hown hK a2 xW_D a6 a he k1 (fk) hkN (hts _ (xTs_of (w := .fieldLink (xR (xE k).2.2.2.2.1) ix (xkC ci).1 ((xkC ci).2.1 fk).2.1 ((xkC ci).2.1 fk).2.2.1) (by have hw := x_fl (xm3_in hl); simp only [xfw, hci, hfk] at hw; exact hw) rfl)) hsame hfin (by rw [hname]; exact of_decide_eq_true hini) (by rw [(k6 _ hkN).2, hR0]) (k4 _ hkN) g1 g2 (by simp [hf]) (xl1 rfl (by decide) hlen hdg) go
      · cases h
  · cases h
set_option maxHeartbeats 1000000 in
theorem xs_iaload : xOk (.iaload) := by
  intro p l e R s m args below meth c Q dd cy z sa n0 u0 k d pc len rn ri rl ls st σ pc' ls' st' σ' C hR hz hcap hdg hlen hok h kk
  obtain ⟨hx, hb, hml, hown, hts, hname, hK, hZ⟩ := C
  unfold xstep at h
  dsimp only at h
  split at h
  · rename_i j a r
    cases hg : (Nat.blt a (mN σ) && Nat.beq (mK σ a) 11 && xinB j (mL σ a)) with
    | false => rw [hg] at h; cases h
    | true =>
      rw [hg] at h
      cases h
      simp only [Bool.and_eq_true, Nat.blt_eq, Nat.beq_eq] at hg
      intro arr H locs a1 a2 a4 a5 a6
      have hk := (kk arr H locs a1 a2 a4 a5 a6)
      exact va_iald hx hb hK a2 a 1 ((xW_at cy (xad z sa) σ hg.1.1).trans (by rw [xC_I hg.1.2])) rfl (xinB_in hg.2) (xl1 rfl (by decide) hlen hdg) hk
  · cases h
set_option maxHeartbeats 1000000 in
theorem xs_baload : xOk (.baload) := by
  intro p l e R s m args below meth c Q dd cy z sa n0 u0 k d pc len rn ri rl ls st σ pc' ls' st' σ' C hR hz hcap hdg hlen hok h kk
  obtain ⟨hx, hb, hml, hown, hts, hname, hK, hZ⟩ := C
  unfold xstep at h
  dsimp only at h
  split at h
  · rename_i j a r
    cases hg : (Nat.blt a (mN σ) && Nat.beq (mK σ a) 10 && xinB j (mL σ a)) with
    | false => rw [hg] at h; cases h
    | true =>
      rw [hg] at h
      cases h
      simp only [Bool.and_eq_true, Nat.blt_eq, Nat.beq_eq] at hg
      intro arr H locs a1 a2 a4 a5 a6
      have hk := (kk arr H locs a1 a2 a4 a5 a6)
      exact va_bald hx hb hK a2 a 0 ((xW_at cy (xad z sa) σ hg.1.1).trans (by rw [xC_B hg.1.2])) rfl (xinB_in hg.2) (xl1 rfl (by decide) hlen hdg) hk
  · cases h
set_option maxHeartbeats 1000000 in
theorem xs_laload : xOk (.laload) := by
  intro p l e R s m args below meth c Q dd cy z sa n0 u0 k d pc len rn ri rl ls st σ pc' ls' st' σ' C hR hz hcap hdg hlen hok h kk
  obtain ⟨hx, hb, hml, hown, hts, hname, hK, hZ⟩ := C
  unfold xstep at h
  dsimp only at h
  split at h
  · rename_i j a r
    cases hg : (Nat.blt a (mN σ) && Nat.beq (mK σ a) 12 && xinB j (mL σ a)) with
    | false => rw [hg] at h; cases h
    | true =>
      rw [hg] at h
      cases h
      simp only [Bool.and_eq_true, Nat.blt_eq, Nat.beq_eq] at hg
      intro arr H locs a1 a2 a4 a5 a6
      have hk := (kk arr H locs a1 a2 a4 a5 a6)
      exact va_lald hx hb hK a2 a 2 ((xW_at cy (xad z sa) σ hg.1.1).trans (by rw [xC_J hg.1.2])) rfl (xinB_in hg.2) (xl1 rfl (by decide) hlen hdg) hk
  · cases h
set_option maxHeartbeats 1000000 in
theorem xs_aaload : xOk (.aaload) := by
  intro p l e R s m args below meth c Q dd cy z sa n0 u0 k d pc len rn ri rl ls st σ pc' ls' st' σ' C hR hz hcap hdg hlen hok h kk
  obtain ⟨hx, hb, hml, hown, hts, hname, hK, hZ⟩ := C
  unfold xstep at h
  dsimp only at h
  split at h
  · rename_i j a r
    cases hg : (Nat.blt a (mN σ) && Nat.beq (mK σ a) 13 && xinB j (mL σ a)) with
    | false => rw [hg] at h; cases h
    | true =>
      rw [hg] at h
      cases h
      simp only [Bool.and_eq_true, Nat.blt_eq, Nat.beq_eq] at hg
      intro arr H locs a1 a2 a4 a5 a6
      have hk := (kk arr H locs a1 a2 a4 a5 a6)
      simp only [List.map_cons, xv_rv] at hk
      exact va_aldq hx hb hK a2 a 3 ((xW_at cy (xad z sa) σ hg.1.1).trans (by rw [xC_R hg.1.2])) rfl (xinB_in hg.2) (xl1 rfl (by decide) hlen hdg) hk
  · cases h
set_option maxHeartbeats 1000000 in
theorem xs_iastore : xOk (.iastore) := by
  intro p l e R s m args below meth c Q dd cy z sa n0 u0 k d pc len rn ri rl ls st σ pc' ls' st' σ' C hR hz hcap hdg hlen hok h kk
  obtain ⟨hx, hb, hml, hown, hts, hname, hK, hZ⟩ := C
  unfold xstep at h
  dsimp only at h
  split at h
  · rename_i x j a r
    cases hg : (Nat.blt a (mN σ) && Nat.beq (mK σ a) 11 && xinB j (mL σ a)) with
    | false => rw [hg] at h; cases h
    | true =>
      rw [hg] at h
      obtain ⟨rfl, rfl, rfl, rfl⟩ := xinj h
      simp only [Bool.and_eq_true, Nat.blt_eq, Nat.beq_eq] at hg
      intro arr H locs a1 a2 a4 a5 a6
      have hset : (xW cy (xad z sa) σ).set a ((xad z sa).1 a, Sum.inl (cy 11, mL σ a, Sum.inl (upd (mI σ a) j.toNatClampNeg x))) = xW cy (xad z sa) (sI σ (up2 (mI σ) a j.toNatClampNeg x)) := xW_set rfl ((xC_I (σ := sI σ (up2 (mI σ) a j.toNatClampNeg x)) hg.1.2).trans (by
          show Sum.inl (cy 11, mL σ a, Sum.inl (up2 (mI σ) a j.toNatClampNeg x a)) = _
          rw [up2_self]
          rfl)) (fun b hb => by
          show xcell cy (xad z sa) (mK σ b) (mL σ b) (up2 (mI σ) a j.toNatClampNeg x b) (mJ σ b) (mR σ b) = _
          rw [up2_ne _ _ _ hb]
          rfl)
      refine va_iast hx hb hK a2 xW_D a6 a 1 ((xW_at cy (xad z sa) σ hg.1.1).trans (by rw [xC_I hg.1.2])) rfl (xinB_in hg.2) (xl1 rfl (by decide) hlen hdg) (fun H1 locs1 b1 b2 b3 => ?_)
      rw [hset] at b1
      exact kk arr H1 locs1 a1 b1 a4 a5 b3
  · cases h
set_option maxHeartbeats 1000000 in
theorem xs_bastore : xOk (.bastore) := by
  intro p l e R s m args below meth c Q dd cy z sa n0 u0 k d pc len rn ri rl ls st σ pc' ls' st' σ' C hR hz hcap hdg hlen hok h kk
  obtain ⟨hx, hb, hml, hown, hts, hname, hK, hZ⟩ := C
  unfold xstep at h
  dsimp only at h
  split at h
  · rename_i x j a r
    cases hg : (Nat.blt a (mN σ) && Nat.beq (mK σ a) 10 && xinB j (mL σ a)) with
    | false => rw [hg] at h; cases h
    | true =>
      rw [hg] at h
      obtain ⟨rfl, rfl, rfl, rfl⟩ := xinj h
      simp only [Bool.and_eq_true, Nat.blt_eq, Nat.beq_eq] at hg
      intro arr H locs a1 a2 a4 a5 a6
      have hset : (xW cy (xad z sa) σ).set a ((xad z sa).1 a, Sum.inl (cy 10, mL σ a, Sum.inl (upd (mI σ a) j.toNatClampNeg (vp_nar .byte x)))) = xW cy (xad z sa) (sI σ (up2 (mI σ) a j.toNatClampNeg (x.toInt8.toInt32))) := xW_set rfl ((xC_B (σ := sI σ (up2 (mI σ) a j.toNatClampNeg (x.toInt8.toInt32))) hg.1.2).trans (by
          show Sum.inl (cy 10, mL σ a, Sum.inl (up2 (mI σ) a j.toNatClampNeg (x.toInt8.toInt32) a)) = _
          rw [up2_self]
          rfl)) (fun b hb => by
          show xcell cy (xad z sa) (mK σ b) (mL σ b) (up2 (mI σ) a j.toNatClampNeg (x.toInt8.toInt32) b) (mJ σ b) (mR σ b) = _
          rw [up2_ne _ _ _ hb]
          rfl)
      refine va_bast hx hb hK a2 xW_D a6 a 0 ((xW_at cy (xad z sa) σ hg.1.1).trans (by rw [xC_B hg.1.2])) rfl (xinB_in hg.2) (xl1 rfl (by decide) hlen hdg) (fun H1 locs1 b1 b2 b3 => ?_)
      rw [hset] at b1
      exact kk arr H1 locs1 a1 b1 a4 a5 b3
  · cases h
set_option maxHeartbeats 1000000 in
theorem xs_lastore : xOk (.lastore) := by
  intro p l e R s m args below meth c Q dd cy z sa n0 u0 k d pc len rn ri rl ls st σ pc' ls' st' σ' C hR hz hcap hdg hlen hok h kk
  obtain ⟨hx, hb, hml, hown, hts, hname, hK, hZ⟩ := C
  unfold xstep at h
  dsimp only at h
  split at h
  · rename_i x j a r
    cases hg : (Nat.blt a (mN σ) && Nat.beq (mK σ a) 12 && xinB j (mL σ a)) with
    | false => rw [hg] at h; cases h
    | true =>
      rw [hg] at h
      obtain ⟨rfl, rfl, rfl, rfl⟩ := xinj h
      simp only [Bool.and_eq_true, Nat.blt_eq, Nat.beq_eq] at hg
      intro arr H locs a1 a2 a4 a5 a6
      have hset : (xW cy (xad z sa) σ).set a ((xad z sa).1 a, Sum.inl (cy 12, mL σ a, Sum.inr (Sum.inl (vp_updL (mJ σ a) j.toNatClampNeg x)))) = xW cy (xad z sa) (sJ σ (up2 (mJ σ) a j.toNatClampNeg x)) := xW_set rfl ((xC_J (σ := sJ σ (up2 (mJ σ) a j.toNatClampNeg x)) hg.1.2).trans (by
          show Sum.inl (cy 12, mL σ a, Sum.inr (Sum.inl (up2 (mJ σ) a j.toNatClampNeg x a))) = _
          rw [up2_self]
          rfl)) (fun b hb => by
          show xcell cy (xad z sa) (mK σ b) (mL σ b) (mI σ b) (up2 (mJ σ) a j.toNatClampNeg x b) (mR σ b) = _
          rw [up2_ne _ _ _ hb]
          rfl)
      refine va_last hx hb hK a2 xW_D a6 a 2 ((xW_at cy (xad z sa) σ hg.1.1).trans (by rw [xC_J hg.1.2])) rfl (xinB_in hg.2) (xl1 rfl (by decide) hlen hdg) (fun H1 locs1 b1 b2 b3 => ?_)
      rw [hset] at b1
      exact kk arr H1 locs1 a1 b1 a4 a5 b3
  · cases h
set_option maxHeartbeats 1000000 in
theorem xs_aastore : xOk (.aastore) := by
  intro p l e R s m args below meth c Q dd cy z sa n0 u0 k d pc len rn ri rl ls st σ pc' ls' st' σ' C hR hz hcap hdg hlen hok h kk
  obtain ⟨hx, hb, hml, hown, hts, hname, hK, hZ⟩ := C
  unfold xstep at h
  dsimp only at h
  split at h
  · rename_i x j a r
    cases hg : (Nat.blt a (mN σ) && Nat.beq (mK σ a) 13 && xinB j (mL σ a) && Nat.blt x (mN σ) && Nat.beq (mK σ x) 4) with
    | false => rw [hg] at h; cases h
    | true =>
      rw [hg] at h
      cases h
      simp only [Bool.and_eq_true, Nat.blt_eq, Nat.beq_eq] at hg
      obtain ⟨⟨⟨⟨g1, g2⟩, g3⟩, g4⟩, g5⟩ := hg
      intro arr H locs a1 a2 a4 a5 a6
      have hset : (xW cy (xad z sa) σ).set a ((xad z sa).1 a, Sum.inl (cy 13, mL σ a, Sum.inr (Sum.inr (Sum.inr (Sum.inr (va_up (fun i => (mR σ a i).map (xad z sa).1) j.toNatClampNeg (some ((xad z sa).1 x)))))))) = xW cy (xad z sa) (sR σ (up2 (mR σ) a j.toNatClampNeg (some x))) := xW_set rfl ((xC_R (σ := sR σ (up2 (mR σ) a j.toNatClampNeg (some x))) g2).trans (by
          show Sum.inl (cy 13, mL σ a, Sum.inr (Sum.inr (Sum.inr (Sum.inr (fun i => (up2 (mR σ) a j.toNatClampNeg (some x) a i).map (xad z sa).1))))) = _
          rw [up2_self]
          have hfun : (fun i => (va_up (mR σ a) j.toNatClampNeg (some x) i).map (xad z sa).1) = va_up (fun i => (mR σ a i).map (xad z sa).1) j.toNatClampNeg (some ((xad z sa).1 x)) := by
            funext i
            by_cases hi : i = j.toNatClampNeg
            · subst hi
              rw [va_up_self, va_up_self]
              rfl
            · rw [va_up_ne _ _ hi, va_up_ne _ _ hi]
          rw [hfun])) (fun b hb => by
          show xcell cy (xad z sa) (mK σ b) (mL σ b) (mI σ b) (mJ σ b) (up2 (mR σ) a j.toNatClampNeg (some x) b) = _
          rw [up2_ne _ _ _ hb]
          rfl)
      refine va_astq (r := xkC 4) hx hb hK a2 xW_D a6 a 3 x 4 ((xW_at cy (xad z sa) σ g1).trans (by rw [xC_R g2])) rfl ((xW_at cy (xad z sa) σ g4).trans (by rw [xC_obj g5 (by decide)])) rfl (xinB_in g3) (xl1 rfl (by decide) hlen hdg) (fun H1 locs1 b1 b2 b3 => ?_)
      rw [hset] at b1
      exact kk arr H1 locs1 a1 b1 a4 a5 b3
  · cases h
set_option maxHeartbeats 1000000 in
theorem xs_new (ix : Nat) : xOk (.new ix) := by
  intro p l e R s m args below meth c Q dd cy z sa n0 u0 k d pc len rn ri rl ls st σ pc' ls' st' σ' C hR hz hcap hdg hlen hok h kk
  obtain ⟨hx, hb, hml, hown, hts, hname, hK, hZ⟩ := C
  unfold xstep at h
  dsimp only at h
  simp only [xokI, Bool.and_eq_true, Nat.blt_eq] at hok
  · cases h
    obtain ⟨k0, k2, -, k4, -, k6⟩ := x_kc _ hok.1
    have k1 := x_k2 k0
    have hR0 : (xkC rn).1 = xR rn := by
      rcases (show rn = 0 ∨ rn = 1 ∨ rn = 2 ∨ rn = 3 ∨ rn = 4 ∨ rn = 5 ∨ rn = 6 ∨ rn = 7 ∨ rn = 8 ∨ rn = 9 by omega) with q | q | q | q | q | q | q | q | q | q <;> rw [q] <;> rfl
    have hN0 : mN (sNew σ rn 0 (xNF rn)) = mN σ + 1 := rfl
    have hU0 : mU (sNew σ rn 0 (xNF rn)) = mU σ + xNF rn := rfl
    rw [hN0, hU0] at hcap
    intro arr H locs a1 a2 a4 a5 a6
    refine va_new (Ts := xTs) (fs := (List.range (xNF rn)).map (fun k => xfv (xad z sa) (xT rn k) 0 0 none)) hx hb hts (xTs_lays _ hok.1) (xkT rn) k4 hown (hts _ (xTs_of (w := .classLink (xR (xE k).2.2.2.2.1) _ (xkC rn).1) (by rw [hR0]; exact x_ck (xm3_in hok.2)) rfl)) (hts _ (xTs_of (w := .instantiable (xkC rn).1 (xkC rn).2.2) (by rw [hR0, k2]; exact (x_ins rn hok.1).1) rfl)) (hts _ (xTs_of (w := .initialized (xkC rn).1) (by rw [hR0]; exact (x_ins rn hok.1).2) rfl)) hK a2 xW_D a6 (fun q hq => by omega) k1 (fun j hj => ?_) (by omega) (by rw [k2]; omega) (xl1 rfl (by decide) hlen hdg) (fun q H1 b1 b2 b3 => ?_)
    · have h6 := (k6 j hj).1
      rw [k2] at hj
      rw [show vp_V ((List.range (xNF rn)).map (fun k => xfv (xad z sa) (xT rn k) 0 0 none)) j = xfv (xad z sa) (xT rn j) 0 0 none by simp [vp_V, List.getD_eq_getElem?_getD, hj], ← h6]
      have h7 := x_tyk rn hok.1 j hj
      cases hty : xkT rn j <;> simp [xtc, xfv, xfg, xrv, xv, defaultValue, hty] at h7 ⊢
    · refine x_fresh (g := fun q => F0 m (pc + 3) arr (.ref q :: st.map (xv (xad z sa)))) hz a4 rfl b1 b2 (fun hq => ?_)
      subst hq
      rw [xW_new (c := rn) (n := 0) (u := xNF rn) rfl (by rw [xcell, if_pos hok.1])] at b1
      have hk := kk arr H1 locs a1 b1 (by rw [hN0]; omega) (by rw [hU0]; omega) b3
      rw [hN0, hU0, show mN σ + 1 - n0 = mN σ - n0 + 1 by omega, show mU σ + xNF rn - u0 = mU σ - u0 + xNF rn by omega] at hk
      rw [k2]
      exact hk
set_option maxHeartbeats 1000000 in
theorem xs_newarray (at0 : ArrayType) : xOk (.newarray at0) := by
  intro p l e R s m args below meth c Q dd cy z sa n0 u0 k d pc len rn ri rl ls st σ pc' ls' st' σ' C hR hz hcap hdg hlen hok h kk
  obtain ⟨hx, hb, hml, hown, hts, hname, hK, hZ⟩ := C
  unfold xstep at h
  dsimp only at h
  split at h
  · rename_i n r
    cases hg : xinB n 2000 with
    | false => rw [hg] at h; cases h
    | true =>
      rw [hg] at h
      cases h
      have hin := xinB_in hg
      have hN0 : mN (sNew σ rn n.toNatClampNeg n.toNatClampNeg) = mN σ + 1 := rfl
      have hU0 : mU (sNew σ rn n.toNatClampNeg n.toNatClampNeg) = mU σ + n.toNatClampNeg := rfl
      rw [hN0, hU0] at hcap
      have hlt : n.toNatClampNeg < 2000 := Nat.not_le.mp (fun q => hin (Or.inr q))
      intro arr H locs a1 a2 a4 a5 a6
      have main : ∀ (ty : FieldType) (a0 : vp_A) (t0 : Nat), newarray.typeOf at0 = ty → (Cond.arrayClass (newarray.typeOf at0)).before args s = true → (∀ cA : ClassId, vp_cell cA a0 = arrV cA n.toNatClampNeg (fun _ => defaultValue ty)) → n.toNatClampNeg * componentBytes ty ≤ 536870912 → (xty cy)[t0]? = some (cy rn, ty) → (∀ U : State, ∀ cA, va_RA U cA ty ↔ U.vm.findClass ("[" ++ ty.toString) = some cA) → (∀ cA, cA = cy rn → Sum.inl (cA, a0) = xcell cy (xad z sa) rn n.toNatClampNeg (fun _ => 0) (fun _ => 0) (fun _ => none)) → W p l e R s m args below meth c H locs (mN σ - n0) (mU σ - u0) Q (F0 m pc arr (.int n :: r.map (xv (xad z sa)))) := by
        intro ty a0 t0 h1 h2 h3 h4 h5 h6 h7
        refine va_newa (a0 := a0) hx hb h2 h1 hK a2 xW_D a6 (fun q hq => by omega) h3 (fun q => hin (Or.inl q)) rfl h4 (by omega) (by omega) (xl1 rfl (by decide) hlen hdg) (fun q cA H1 bK b1 b2 b3 => ?_)
        refine x_fresh (g := fun q => F0 m (pc + 2) arr (.ref q :: r.map (xv (xad z sa)))) hz a4 rfl b1 b2 (fun hq => ?_)
        subst hq
        have hcA : cA = cy rn := by
          have e1 := (h6 s cA).mp (bK.2 4 (cA, ty) rfl).2
          have e2 := (h6 s (cy rn)).mp (hK.2 t0 _ h5).2
          exact Option.some.inj (e1.symm.trans e2)
        rw [xW_new (c := rn) (n := n.toNatClampNeg) (u := n.toNatClampNeg) rfl (h7 cA hcA)] at b1
        have hk := kk arr H1 locs a1 b1 (by rw [hN0]; omega) (by rw [hU0]; omega) b3
        rw [hN0, hU0, show mN σ + 1 - n0 = mN σ - n0 + 1 by omega, show mU σ + n.toNatClampNeg - u0 = mU σ - u0 + n.toNatClampNeg by omega] at hk
        exact hk
      cases at0 <;> simp only [xokI, Nat.beq_eq] at hok <;> first | (cases hok; done) | skip
      · subst hok
        exact main .byte (n.toNatClampNeg, .inl (fun _ => 0)) 0 rfl (hts _ (xTs_of x_arrB rfl)) (fun _ => rfl) (by simp [componentBytes]; omega) rfl (fun _ _ => Iff.rfl) (fun cA hc => by subst hc; rfl)
      · subst hok
        exact main .int (n.toNatClampNeg, .inl (fun _ => 0)) 1 rfl (hts _ (xTs_of x_arrI rfl)) (fun _ => rfl) (by simp [componentBytes]; omega) rfl (fun _ _ => Iff.rfl) (fun cA hc => by subst hc; rfl)
      · subst hok
        exact main .long (n.toNatClampNeg, .inr (.inl (fun _ => 0))) 2 rfl (hts _ (xTs_of x_arrJ rfl)) (fun _ => rfl) (by simp [componentBytes]; omega) rfl (fun _ _ => Iff.rfl) (fun cA hc => by subst hc; rfl)
  · cases h
set_option maxHeartbeats 1000000 in
theorem xs_anewarray (ix : Nat) : xOk (.anewarray ix) := by
  intro p l e R s m args below meth c Q dd cy z sa n0 u0 k d pc len rn ri rl ls st σ pc' ls' st' σ' C hR hz hcap hdg hlen hok h kk
  obtain ⟨hx, hb, hml, hown, hts, hname, hK, hZ⟩ := C
  unfold xstep at h
  dsimp only at h
  simp only [xokI, Bool.and_eq_true, Nat.beq_eq] at hok
  split at h
  · rename_i n r
    cases hg : xinB n 2000 with
    | false => rw [hg] at h; cases h
    | true =>
      rw [hg] at h
      cases h
      have hin := xinB_in hg
      have hN0 : mN (sNew σ 13 n.toNatClampNeg n.toNatClampNeg) = mN σ + 1 := rfl
      have hU0 : mU (sNew σ 13 n.toNatClampNeg n.toNatClampNeg) = mU σ + n.toNatClampNeg := rfl
      rw [hN0, hU0] at hcap
      have hlt : n.toNatClampNeg < 2000 := Nat.not_le.mp (fun q => hin (Or.inr q))
      intro arr H locs a1 a2 a4 a5 a6
      refine va_newq (C := "LastAsked$State") hx hb hown (hts _ (xTs_of (x_ck (xm3_in hok.2)) rfl)) hZ.2.2.1 hK a2 xW_D a6 (fun q hq => by omega) (fun q => hin (Or.inl q)) rfl (by omega) (by omega) (by omega) (xl1 rfl (by decide) hlen hdg) (fun q cA H1 bK b1 b2 b3 => ?_)
      refine x_fresh (g := fun q => F0 m (pc + 3) arr (.ref q :: r.map (xv (xad z sa)))) hz a4 rfl b1 b2 (fun hq => ?_)
      subst hq
      have hcA : cA = cy 13 := by
        obtain ⟨_, _, _, _, _, e1⟩ := (bK.2 4 (cA, .object "LastAsked$State") rfl).2
        obtain ⟨_, _, _, _, _, e2⟩ := (hK.2 3 (cy 13, .object "LastAsked$State") rfl).2
        exact Option.some.inj (e1.symm.trans e2)
      subst hcA
      rw [xW_new (cy := cy) (ad := xad z sa) (σ := σ) (c := 13) (n := n.toNatClampNeg) (u := n.toNatClampNeg) (e := Sum.inl (cy 13, n.toNatClampNeg, Sum.inr (Sum.inr (Sum.inr (Sum.inr (fun _ => none)))))) rfl rfl] at b1
      have hk := kk arr H1 locs a1 b1 (by rw [hN0]; omega) (by rw [hU0]; omega) b3
      rw [hN0, hU0, show mN σ + 1 - n0 = mN σ - n0 + 1 by omega, show mU σ + n.toNatClampNeg - u0 = mU σ - u0 + n.toNatClampNeg by omega] at hk
      exact hk
  · cases h
set_option maxHeartbeats 1000000 in
theorem xs_invokespecial (ix : Nat) : xOk (.invokespecial ix) := by
  intro p l e R s m args below meth c Q dd cy z sa n0 u0 k d pc len rn ri rl ls st σ pc' ls' st' σ' C hR hz hcap hdg hlen hok h kk
  obtain ⟨hx, hb, hml, hown, hts, hname, hK, hZ⟩ := C
  unfold xstep at h
  dsimp only at h
  cases hg : (Nat.beq rn 9000 && Nat.blt 0 d) with
  | false => rw [hg] at h; cases h
  | true =>
    rw [hg] at h
    simp only [cond_true] at h
    simp only [Bool.and_eq_true, Nat.blt_eq] at hg
    rw [xokI, hg.1] at hok
    split at h
    · rename_i a r
      cases hr : xsr r with
      | false => rw [hr] at h; cases h
      | true =>
        rw [hr] at h
        obtain ⟨rfl, rfl, rfl, rfl⟩ := xinj h
        have hr2 : ((r.map fun v => v.category).sum) ≤ 8 := Nat.le_of_ble_eq_true hr
        intro arr H locs a1 a2 a4 a5 a6
        refine W.objInit hx hb hown (hts _ (xTs_of (xOL_in (xm2_in hok)) rfl)) (hts _ (xTs_of x_obj1 rfl)) (hts _ (xTs_of x_obj2 rfl)) rfl a1.2.1 rfl (xl1 rfl (by decide) hlen hdg) (by omega) ?_ (kk arr H locs a1 a2 a4 a5 a6)
        show 2 * 0 + ((r.map (xv (xad z sa))).map fun v => v.category).sum + 12 ≤ R.locals
        rw [xv_cats]
        omega
    · cases h
set_option maxHeartbeats 1000000 in
theorem xs_invokestatic (ix : Nat) : xOk (.invokestatic ix) := by
  intro p l e R s m args below meth c Q dd cy z sa n0 u0 k d pc len rn ri rl ls st σ pc' ls' st' σ' C hR hz hcap hdg hlen hok h kk
  obtain ⟨hx, hb, hml, hown, hts, hname, hK, hZ⟩ := C
  unfold xstep at h
  dsimp only at h
  cases hg : Nat.blt 0 d with
  | false => rw [hg] at h; cases h
  | true =>
    rw [hg] at h
    simp only [cond_true] at h
    rw [Nat.blt_eq] at hg
    cases h1 : Nat.beq rn 9001 with
    | true =>
      rw [h1] at h
      simp only [cond_true] at h
      rw [xokI, h1] at hok
      split at h
      · rename_i y x r
        cases hr : xsr r with
        | false => rw [hr] at h; cases h
        | true =>
          rw [hr] at h
          obtain ⟨rfl, rfl, rfl, rfl⟩ := xinj h
          have hr2 : ((r.map fun v => v.category).sum) ≤ 8 := Nat.le_of_ble_eq_true hr
          intro arr H locs a1 a2 a4 a5 a6
          exact va_mmin hx hb a1.2.1.symm hown (hts _ (xTs_of (xMI_in (xm2_in hok)) rfl)) (hts _ (xTs_of x_min1 rfl)) (hts _ (xTs_of x_math rfl)) (hts _ (xTs_of x_min2 rfl)) (by omega) (by rw [xv_cats]; omega) hcap.1 hcap.2 (xl1 rfl (by decide) hlen hdg) (kk arr H locs a1 a2 a4 a5 a6)
      · cases h
    | false =>
      rw [h1] at h
      simp only [cond_false] at h
      cases h2 : Nat.beq rn 9002 with
      | true =>
        rw [h2] at h
        simp only [cond_true] at h
        rw [xokI, h1, h2] at hok
        split at h
        · rename_i y x r
          cases hr : xsr r with
          | false => rw [hr] at h; cases h
          | true =>
            rw [hr] at h
            obtain ⟨rfl, rfl, rfl, rfl⟩ := xinj h
            have hr2 : ((r.map fun v => v.category).sum) ≤ 8 := Nat.le_of_ble_eq_true hr
            intro arr H locs a1 a2 a4 a5 a6
            exact va_mmax hx hb a1.2.1.symm hown (hts _ (xTs_of (xMA_in (xm2_in hok)) rfl)) (hts _ (xTs_of x_max1 rfl)) (hts _ (xTs_of x_math rfl)) (hts _ (xTs_of x_max2 rfl)) (by omega) (by rw [xv_cats]; omega) hcap.1 hcap.2 (xl1 rfl (by decide) hlen hdg) (kk arr H locs a1 a2 a4 a5 a6)
        · cases h
      | false =>
        rw [h2] at h
        simp only [cond_false] at h
        cases h3 : Nat.beq rn 9003 with
        | false => rw [h3] at h; cases h
        | true =>
          rw [h3] at h
          simp only [cond_true] at h
          rw [xokI, h1, h2, h3] at hok
          split at h
          · rename_i n dp a sp b r
            cases hc : (xsr r && Nat.blt a (mN σ) && Nat.beq (mK σ a) 11 && Nat.blt b (mN σ) && Nat.beq (mK σ b) 11 && !(decide (sp < 0)) && !(decide (dp < 0)) && !(decide (n < 0)) && Nat.ble (sp.toNatClampNeg + n.toNatClampNeg) (mL σ b) && Nat.ble (dp.toNatClampNeg + n.toNatClampNeg) (mL σ a)) with
            | false => rw [hc] at h; cases h
            | true =>
              rw [hc] at h
              obtain ⟨rfl, rfl, rfl, rfl⟩ := xinj h
              simp only [Bool.and_eq_true, Nat.blt_eq, Nat.beq_eq, Bool.not_eq_true', decide_eq_false_iff_not, Nat.ble_eq] at hc
              obtain ⟨⟨⟨⟨⟨⟨⟨⟨⟨c0, c1⟩, c2⟩, c3⟩, c4⟩, c5⟩, c6⟩, c7⟩, c8⟩, c9⟩ := hc
              have hr2 : ((r.map fun v => v.category).sum) ≤ 8 := Nat.le_of_ble_eq_true c0
              intro arr H locs a1 a2 a4 a5 a6
              have hset : (xW cy (xad z sa) σ).set a ((xad z sa).1 a, Sum.inl (cy 11, mL σ a, Sum.inl (va_cpy (mI σ b) (mI σ a) sp.toNatClampNeg dp.toNatClampNeg n.toNatClampNeg))) = xW cy (xad z sa) (sI σ (va_up (mI σ) a (va_cpy (mI σ b) (mI σ a) sp.toNatClampNeg dp.toNatClampNeg n.toNatClampNeg))) := xW_set rfl ((xC_I (σ := sI σ (va_up (mI σ) a (va_cpy (mI σ b) (mI σ a) sp.toNatClampNeg dp.toNatClampNeg n.toNatClampNeg))) c2).trans (by
                  show Sum.inl (cy 11, mL σ a, Sum.inl (va_up (mI σ) a (va_cpy (mI σ b) (mI σ a) sp.toNatClampNeg dp.toNatClampNeg n.toNatClampNeg) a)) = _
                  rw [va_up_self])) (fun b' hb' => by
                  show xcell cy (xad z sa) (mK σ b') (mL σ b') (va_up (mI σ) a (va_cpy (mI σ b) (mI σ a) sp.toNatClampNeg dp.toNatClampNeg n.toNatClampNeg) b') (mJ σ b') (mR σ b') = _
                  rw [va_up_ne _ _ hb']
                  rfl)
              refine va_copyi hx hb a1.2.1.symm hown (hts _ (xTs_of (xAL_in (xm2_in hok)) rfl)) (hts _ (xTs_of x_ac1 rfl)) (hts _ (xTs_of x_ac2 rfl)) (hts _ (xTs_of x_ac3 rfl)) hK a2 xW_D a6 b a 1 1 ((xW_at cy (xad z sa) σ c3).trans (by rw [xC_I c4])) ((xW_at cy (xad z sa) σ c1).trans (by rw [xC_I c2])) rfl rfl rfl c5 c6 c7 c8 c9 (fun i _ => rfl) (by omega) (by rw [xv_cats, show nativeFrameWords "java/lang/System" "arraycopy" 5 = 7 by decide +kernel]; omega) (xl1 rfl (by decide) hlen hdg) (fun H1 locs1 b1 b2 b3 => ?_)
              rw [hset] at b1
              exact kk arr H1 locs1 a1 b1 a4 a5 b3
          · cases h
end XS
theorem x_step : ∀ i : Instr, xOk i := by
  intro i
  cases i
  case iconst n => exact xs_iconst n
  case bipush n => exact xs_bipush n
  case sipush n => exact xs_sipush n
  case lconst n => exact xs_lconst n
  case ldc ix => exact xs_ldc ix
  case ldc_w ix => exact xs_ldc_w ix
  case ldc2_w ix => exact xs_ldc2_w ix
  case iload_n n => exact xs_iload_n n
  case iload n => exact xs_iload n
  case lload_n n => exact xs_lload_n n
  case lload n => exact xs_lload n
  case aload_n n => exact xs_aload_n n
  case aload n => exact xs_aload n
  case istore_n n => exact xs_istore_n n
  case istore n => exact xs_istore n
  case lstore_n n => exact xs_lstore_n n
  case lstore n => exact xs_lstore n
  case astore_n n => exact xs_astore_n n
  case iinc n w => exact xs_iinc n w
  case iadd  => exact xs_iadd 
  case isub  => exact xs_isub 
  case imul  => exact xs_imul 
  case iand  => exact xs_iand 
  case ior  => exact xs_ior 
  case ixor  => exact xs_ixor 
  case ishl  => exact xs_ishl 
  case ishr  => exact xs_ishr 
  case iushr  => exact xs_iushr 
  case idiv  => exact xs_idiv 
  case irem  => exact xs_irem 
  case ineg  => exact xs_ineg 
  case ladd  => exact xs_ladd 
  case lmul  => exact xs_lmul 
  case lor  => exact xs_lor 
  case ldiv  => exact xs_ldiv 
  case lrem  => exact xs_lrem 
  case lshl  => exact xs_lshl 
  case lcmp  => exact xs_lcmp 
  case i2l  => exact xs_i2l 
  case l2i  => exact xs_l2i 
  case i2b  => exact xs_i2b 
  case dup  => exact xs_dup 
  case pop  => exact xs_pop 
  case dup2  => exact xs_dup2 
  case ifCond cnd off => exact xs_ifCond cnd off
  case if_icmp cnd off => exact xs_if_icmp cnd off
  case ifnull off => exact xs_ifnull off
  case ifnonnull off => exact xs_ifnonnull off
  case goto off => exact xs_goto off
  case tableswitch df lo hi offs => exact xs_tableswitch df lo hi offs
  case getfield ix => exact xs_getfield ix
  case putfield ix => exact xs_putfield ix
  case iaload  => exact xs_iaload 
  case baload  => exact xs_baload 
  case laload  => exact xs_laload 
  case aaload  => exact xs_aaload 
  case iastore  => exact xs_iastore 
  case bastore  => exact xs_bastore 
  case lastore  => exact xs_lastore 
  case aastore  => exact xs_aastore 
  case new ix => exact xs_new ix
  case newarray at0 => exact xs_newarray at0
  case anewarray ix => exact xs_anewarray ix
  case invokespecial ix => exact xs_invokespecial ix
  case invokestatic ix => exact xs_invokestatic ix
  all_goals (intro p l e R s m args below meth c Q dd cy z sa n0 u0 k d pc len rn ri rl ls st σ pc' ls' st' σ' C hR hz hcap hdg hlen hok h kk; unfold xstep at h; cases h)
end
section
/-! runs of the small machine are runs of the machine -/
theorem xfp_N {σ σ' : xM} {a k t : Nat} {v : Value} (h : xfp σ a k t v = some σ') : mN σ' = mN σ ∧ mU σ' = mU σ := by
  unfold xfp at h
  split at h
  all_goals (try split at h)
  all_goals (try split at h)
  all_goals (try split at h)
  all_goals first | (cases h; exact ⟨rfl, rfl⟩) | cases h
theorem xstep_mono {d rn pc : Nat} {i : Instr} {ri : Int32} {rl : Int64} {ls st : List Value} {σ : xM} {x : xSt} (h : xstep d i rn ri rl pc ls st σ = some x) : mN σ ≤ mN x.2.2.2 ∧ mU σ ≤ mU x.2.2.2 := by
  unfold xstep at h
  simp only [Bool.cond_eq_ite] at h
  split at h
  all_goals (try split at h)
  all_goals (try split at h)
  all_goals (try split at h)
  all_goals (try split at h)
  all_goals (try split at h)
  all_goals (try split at h)
  all_goals first
    | (cases h; exact ⟨Nat.le_refl _, Nat.le_refl _⟩)
    | (cases h; exact ⟨Nat.le_succ _, Nat.le_add_right _ _⟩)
    | (rename_i hfp; cases h; obtain ⟨h1, h2⟩ := xfp_N hfp; exact ⟨Nat.le_of_eq h1.symm, Nat.le_of_eq h2.symm⟩)
    | cases h
/-- prim: methods whose contracts are proved by hand -/
def xex (prim : Nat → Nat → List Value → xM → Option (Option Value × xM)) : Nat → Nat → Nat → Nat → List Value → List Value → xM → Option (Option Value × xM)
  | 0, _, _, _, _, _, _ => none
  | n + 1, d, k, pc, ls, st, σ => match xcode k pc with
    | none => none
    | some en => match xstep d en.2.1 en.2.2.2.1 en.2.2.2.2.1 en.2.2.2.2.2 pc ls st σ with
      | some x => xex prim n d k x.1 x.2.1 x.2.2.1 x.2.2.2
      | none => match xret en.2.1 (xE k).2.2.2.1 st with
        | some r => some (r, σ)
        | none => match xargs en.2.1 en.2.2.2.1 st σ with
          | none => none
          | some ar => match d with
            | 0 => none
            | d' + 1 => bif xsr ar.2 && Nat.ble ((xflat ar.1).length) (xE en.2.2.2.1).2.2.1 && Nat.blt en.2.2.2.1 274 then
                (match (match prim d' en.2.2.2.1 ar.1 σ with
                  | some y => some y
                  | none => xex prim n d' en.2.2.2.1 0 (xent ar.1 (xE en.2.2.2.1).2.2.1) [] σ) with
                | some y => xex prim n (d' + 1) k (pc + 3) ls (y.1.toList ++ ar.2) y.2
                | none => none) else none
/-- what prims never do: give cells back -/
def xpm (prim : Nat → Nat → List Value → xM → Option (Option Value × xM)) : Prop := ∀ (d k : Nat) (as : List Value) (σ : xM) (y : Option Value × xM), prim d k as σ = some y → mN σ ≤ mN y.2 ∧ mU σ ≤ mU y.2
theorem xex_mono {prim : Nat → Nat → List Value → xM → Option (Option Value × xM)} (hpm : xpm prim) : ∀ (n d k pc : Nat) (ls st : List Value) (σ : xM) (y : Option Value × xM), xex prim n d k pc ls st σ = some y → mN σ ≤ mN y.2 ∧ mU σ ≤ mU y.2 := by
  intro n
  induction n with
  | zero => intro d k pc ls st σ y h; cases h
  | succ n ih =>
    intro d k pc ls st σ y h
    unfold xex at h
    split at h
    · cases h
    · split at h
      · rename_i hs
        have h1 := xstep_mono hs
        have h2 := ih _ _ _ _ _ _ _ h
        exact ⟨Nat.le_trans h1.1 h2.1, Nat.le_trans h1.2 h2.2⟩
      · split at h
        · cases h
          exact ⟨Nat.le_refl _, Nat.le_refl _⟩
        · split at h
          · cases h
          · split at h
            · cases h
            · rw [Bool.cond_eq_ite] at h
              split at h
              · split at h
                · rename_i y1 hc
                  have h2 := ih _ _ _ _ _ _ _ h
                  have h1 : mN σ ≤ mN y1.2 ∧ mU σ ≤ mU y1.2 := by
                    split at hc
                    · rename_i hp
                      cases hc
                      exact hpm _ _ _ _ _ hp
                    · exact ih _ _ _ _ _ _ _ hc
                  exact ⟨Nat.le_trans h1.1 h2.1, Nat.le_trans h1.2 h2.2⟩
                · cases h
              · cases h
def xRel (dd : va_G) (cy : Nat → ClassId) (z : Nat) (sa : UInt32 → Nat) (Zs : State → Prop) (σ : xM) (U : State) : Prop := U.heap.size = z + mN σ ∧ va_P dd vwC2 (xW cy (xad z sa) σ) U.heap ∧ va_K dd vwC2 (xty cy) U ∧ xZ sa U ∧ Zs U
def xQ (dd : va_G) (cy : Nat → ClassId) (z : Nat) (sa : UInt32 → Nat) (Zs : State → Prop) (r : Option Value) (σ' : xM) : Array Value → State → Outcome → State → Prop := fun _ st oc t => (oc = .returned (r.map (xv (xad z sa))) ∧ xRel dd cy z sa Zs σ' t) ∧ va_F (fun q => z ≤ q) st t
def xRm (d mc ms : Nat) : Room := { frames := d, cells := mc, slots := ms, locals := 42 * d }
def xMetP (l : Launch) (dd : va_G) (cy : Nat → ClassId) (z : Nat) (sa : UInt32 → Nat) (Zs : State → Prop) (d k : Nat) (as : List Value) (σ : xM) (r : Option Value) (σ' : xM) : Prop :=
  Met l (xE k).1 (.code (xE k).1 (xE k).2.1 (xE k).2.2.1 (xE k).2.2.2.1 :: xTs) (xRm d (mN σ' - mN σ) (mU σ' - mU σ)) (va_Pc (as.map (xv (xad z sa))) (xRel dd cy z sa Zs σ)) (xQ dd cy z sa Zs r σ') (mN σ' - mN σ) (mU σ' - mU σ) (fun q => z ≤ q)
/-- what lies below z stays as it is: so does Zs -/
def xZst (z : Nat) (Zs : State → Prop) : Prop := ∀ s U : State, Zs s → s.WarmedH U.vm → (∀ q, q < z → U.heap[q]? = s.heap[q]?) → Zs U
section XR
variable {p : Program} {l : Launch} {e : Env} {R : Room} {s : State} {m : MethodId} {args : Array Value} {below : List Frame} {meth : Method} {c : Code} {Q : State → Prop} {dd : va_G} {cy : Nat → ClassId} {z : Nat} {sa : UInt32 → Nat} {n0 u0 : Nat} {Zs : State → Prop}
theorem x_relAt {σ : xM} {H : Heap} {locs : List Loc} {k : Nat} (hZst : xZst z Zs) (C : xCx dd cy sa p s m args meth c k) (hZs : Zs s) (hz : s.heap.size = z + n0) (hP : va_P dd vwC2 (xW cy (xad z sa) σ) H) (hS : va_S (fun q => z ≤ q) s.heap H locs) (hsz : H.size = z + mN σ) (U : State) (hU : U.heap = H) (hW : s.WarmedH U.vm) : xRel dd cy z sa Zs σ U := by
  obtain ⟨hx, hb, hml, hown, hts, hname, hK, hZ⟩ := C
  refine ⟨by rw [hU]; exact hsz, by rw [hU]; exact hP, va_K.moved hW.alike hK, hZ.warm hW, hZst s U hZs hW (fun q hq => ?_)⟩
  rw [hU]
  exact hS.2.1 q (by omega) (by omega)
theorem x_ret {σ : xM} {k pc len : Nat} {i : Instr} {t : Option FieldType} {ls st : List Value} {r : Option Value} (hZst : xZst z Zs) (C : xCx dd cy sa p s m args meth c k) (hret : meth.sig.returnType = t) (hlocks : meth.locks = false) (hZs : Zs s) (hz : s.heap.size = z + n0)
    (hdg : decode (xE k).2.1 pc = .ok (i, len)) (hlen : xlen i = 0 ∨ xlen i = len) (h : xret i t st = some r) :
    xG p l e R s m args below meth c (MQ below (xQ dd cy z sa Zs r σ) args s (mN σ - n0) (mU σ - u0) (fun q => z ≤ q)) dd cy z sa n0 u0 pc ls st σ := by
  have C0 := C
  obtain ⟨hx, hb, hml, hown, hts, hname, hK, hZ⟩ := C
  intro arr H locs a1 a2 a4 a5 a6
  refine x_size hz a2 a4 rfl a6 (fun hsz => ?_)
  have hq : ∀ tt : State, tt.heap = H → s.WarmedH tt.vm → xQ dd cy z sa Zs r σ args s (.returned (r.map (xv (xad z sa)))) tt := fun tt ht hW => ⟨⟨rfl, x_relAt hZst C0 hZs hz a2 a6 hsz tt ht hW⟩, a6.F ht⟩
  unfold xret at h
  split at h
  · cases h
    exact W.iret hx hb hret hq a6.2.2 (xl1 rfl (by decide) hlen hdg) (hlocks := hlocks)
  · split at h
    · rename_i hb01
      cases h
      exact W.zret hx hb hret (by rcases hb01 with rfl | rfl <;> rfl) hq a6.2.2 (xl1 rfl (by decide) hlen hdg) (hlocks := hlocks)
    · cases h
  · cases h
    exact W.lret hx hb hret hq a6.2.2 (xl1 rfl (by decide) hlen hdg) (hlocks := hlocks)
  · cases h
    exact W.aret hx hb hret (Or.inl ⟨_, rfl⟩) (Or.inr ⟨_, rfl⟩) hq a6.2.2 (xl1 rfl (by decide) hlen hdg) (hlocks := hlocks)
  · cases h
    exact W.vret hx hb hret hq a6.2.2 (xl1 rfl (by decide) hlen hdg) (hlocks := hlocks)
  · cases h
theorem x_callk {σ1 : xM} {r1 : Option Value} {H : Heap} {locs : List Loc} {cells slots mc ms pc : Nat} {arr : Array Slot} {st0 rest : List Value} {a : Array Value} (hr : va_Run p l e R s m args below meth c H locs cells slots mc ms (F0 m pc arr st0) rest (xQ dd cy z sa Zs r1 σ1 a) (fun q => z ≤ q)) (hS : va_S (fun q => z ≤ q) s.heap H locs)
    (kk : ∀ (H1 : Heap) (locs1 : List Loc), va_P dd vwC2 (xW cy (xad z sa) σ1) H1 → va_S (fun q => z ≤ q) s.heap H1 locs1 → W p l e R s m args below meth c H1 locs1 (cells + mc) (slots + ms) Q (F0 m (pc + 3) arr ((r1.map (xv (xad z sa))).toList ++ rest))) : W p l e R s m args below meth c H locs cells slots Q (F0 m pc arr st0) := by
  intro T hT X
  obtain ⟨v, st₀, t, T', L, h0, X', hL, e1, e2, ⟨⟨hv, -, hP, -, -, -⟩, hz, hk⟩, st⟩ := hr T hT X
  cases hv
  rw [h0] at hz hk
  obtain ⟨t2, a1, b1⟩ := kk T'.heap (locs ++ L) (by rw [e1]; exact hP)
    ⟨Nat.le_trans hS.1 (by rw [e1]; exact hz), fun q h1 h2 => by rw [e1, hk q (Nat.lt_of_lt_of_le h1 hS.1) h2]; exact hS.2.1 q h1 h2, fun q hq => by
      rcases List.mem_append.mp hq with h | h
      · exact hS.2.2 q h
      · exact hL q h⟩ T' rfl X'
  exact ⟨t2, st t2 a1, b1⟩
theorem x_blind {as : List Value} {σ : xM} (hZst : xZst z Zs) : FrameBlind (va_Pc (as.map (xv (xad z sa))) (xRel dd cy z sa Zs σ)) := by
  intro a U g mk h
  obtain ⟨h1, h2, h3, h4, h5, h6⟩ := h
  exact ⟨h1, h2, h3, va_K.moved (u := U) (U := U.calling g mk a) (Vm.Alike.refl U.vm) h4, xZ.same (u := U) (U := U.calling g mk a) rfl h5, hZst U (U.calling g mk a) h6 (State.WarmedH.refl U) (fun _ _ => rfl)⟩
theorem x_words {k rn : Nat} (C : xCx dd cy sa p s m args meth c k) (hrn : rn < 274) : ∀ w ∈ (Cond.code (xE rn).1 (xE rn).2.1 (xE rn).2.2.1 (xE rn).2.2.2.1 :: xTs), ∀ (a' : Array Value) (U : State), s.WarmedH U.vm → w.before a' U = true := by
  intro w hw a' U hW
  have hw2 : w ∈ xTs := by
    rcases List.mem_cons.mp hw with rfl | h
    · exact xTs_of (x_meAt hrn).1 rfl
    · exact h
  exact word_at hW (good_of_word (List.mem_filter.mp hw2).2) (C.2.2.2.2.1 w hw2)
/-- a call of the small machine -/
theorem x_call {k d pc len rn : Nat} {i : Instr} {ri : Int32} {rl : Int64} {ls st : List Value} {σ σ1 : xM} {ar : List Value × List Value} {r1 : Option Value} (hZst : xZst z Zs) (C : xCx dd cy sa p s m args meth c k) (hZs : Zs s) (hR : d + 1 ≤ R.frames ∧ 42 * (d + 1) ≤ R.locals) (hz : s.heap.size = z + n0)
    (hcap : mN σ1 - n0 ≤ R.cells ∧ mU σ1 - u0 ≤ R.slots) (hmono : mN σ ≤ mN σ1 ∧ mU σ ≤ mU σ1)
    (hdg : decode (xE k).2.1 pc = .ok (i, len)) (hlen : xlen i = 0 ∨ xlen i = len) (hok : xokI (xE k).2.2.2.2.1 (decide ((xE k).1.name = "<init>")) pc i rn ri rl = true)
    (har : xargs i rn st σ = some ar) (hns : xstep (d + 1) i rn ri rl pc ls st σ = none) (hsr : xsr ar.2 = true) (hrn : rn < 274) (hM : xMetP l dd cy z sa Zs d rn ar.1 σ r1 σ1)
    (kk : xG p l e R s m args below meth c Q dd cy z sa n0 u0 (pc + 3) ls (r1.toList ++ ar.2) σ1) : xG p l e R s m args below meth c Q dd cy z sa n0 u0 pc ls st σ := by
  have C0 := C
  obtain ⟨hx, hb, hml, hown, hts, hname, hK, hZ⟩ := C
  obtain ⟨w1, w2, w3, w4, w5, w6, ⟨w7, w8, w9⟩, w10, w11⟩ := x_meAt hrn
  intro arr H locs a1 a2 a4 a5 a6
  refine x_size hz a2 a4 rfl a6 (fun hsz => ?_)
  have hroom : ((ar.2.map (xv (xad z sa))).map fun v => v.category).sum ≤ 8 := by
    rw [xv_cats]
    exact Nat.le_of_ble_eq_true hsr
  have hgo : ∀ (H1 : Heap) (locs1 : List Loc), va_P dd vwC2 (xW cy (xad z sa) σ1) H1 → va_S (fun q => z ≤ q) s.heap H1 locs1 → W p l e R s m args below meth c H1 locs1 (mN σ - n0 + (mN σ1 - mN σ)) (mU σ - u0 + (mU σ1 - mU σ)) Q (F0 m (pc + 3) arr ((r1.map (xv (xad z sa))).toList ++ ar.2.map (xv (xad z sa)))) := by
    intro H1 locs1 b1 b3
    have hk := kk arr H1 locs1 a1 b1 (by omega) (by omega) b3
    rw [show mN σ - n0 + (mN σ1 - mN σ) = mN σ1 - n0 by omega, show mU σ - u0 + (mU σ1 - mU σ) = mU σ1 - u0 by omega]
    rw [List.map_append, show (r1.toList).map (xv (xad z sa)) = (r1.map (xv (xad z sa))).toList by cases r1 <;> rfl] at hk
    exact hk
  have hf : mN σ - n0 + (mN σ1 - mN σ) ≤ R.cells ∧ mU σ - u0 + (mU σ1 - mU σ) ≤ R.slots := by omega
  have hpre : ∀ U : State, U.heap = H → s.WarmedH U.vm → va_Pc (ar.1.map (xv (xad z sa))) (xRel dd cy z sa Zs σ) (ar.1.map (xv (xad z sa))).toArray U := fun U hU hW => ⟨rfl, x_relAt hZst C0 hZs hz a2 a6 hsz U hU hW⟩
  have hfix : CallFix p m c (xE k).2.1 (xE k).2.2.1 s args xTs (xR (xE k).2.2.2.2.1) := ⟨hx, hb, hml, hown, hts⟩
  have hcode0 : (Cond.code (xE rn).1 (xE rn).2.1 (xE rn).2.2.1 (xE rn).2.2.2.1).before args s = true := hts _ (xTs_of w1 rfl)
  have hini0 : (Cond.initialized (xE rn).1.cls).before args s = true := hts _ (xTs_of w2 rfl)
  have hfr : (xRm d (mN σ1 - mN σ) (mU σ1 - mU σ)).frames + 1 ≤ R.frames := hR.1
  have hlo : 8 + ((xE rn).2.2.1 + 11) + (xRm d (mN σ1 - mN σ) (mU σ1 - mU σ)).locals ≤ R.locals := by
    show 8 + ((xE rn).2.2.1 + 11) + 42 * d ≤ R.locals
    omega
  have hsize : (F0 m pc arr (st.map (xv (xad z sa)))).locals.size = (xE k).2.2.1 := by
    show arr.size = _
    rw [a1.2.1, hml]
  have hroom2 : 2 * (F0 m pc arr (st.map (xv (xad z sa)))).monitorRoom + ((ar.2.map (xv (xad z sa))).map fun v => v.category).sum ≤ 8 := by
    show 2 * 0 + _ ≤ 8
    omega
  have hlinkN : ∀ ix, xm3 xVN (xE k).2.2.2.2.1 ix rn = true → (Cond.methodLinkNest (xR (xE k).2.2.2.2.1) ix (xE rn).1 (xHost (xE k).2.2.2.2.1)).before args s = true := fun ix h => by
    have hw : va_Nw (xvn ((xE k).2.2.2.2.1, ix, rn)) s := hZ.2.1 _ (xm3_in h)
    unfold xvn at hw
    exact va_Nw.use (by rfl) hw
  have hlinkV : ∀ ix, xm3 xVL (xE k).2.2.2.2.1 ix rn = true → (Cond.methodLink (xR (xE k).2.2.2.2.1) ix (xE rn).1).before args s = true := fun ix h => hts _ (xTs_of (w := .methodLink (xR (xE k).2.2.2.2.1) ix (xE rn).1) (x_vl (xm3_in h)) rfl)
  have hwords := x_words C0 hrn
  unfold xMetP at hM
  have hcal := x_cal hrn
  unfold xargs at har
  generalize xE rn = E at *
  split at har
  · -- virtual
    rename_i ix
    simp only [xokI, Bool.and_eq_true, Bool.or_eq_true, Nat.blt_eq, Bool.not_eq_true', hcal] at hok
    obtain ⟨⟨⟨⟨-, o2⟩, o3⟩, o4⟩, o5⟩ := hok
    split at har
    · rename_i a as hta
      rw [Bool.cond_eq_ite] at har
      split at har
      · rename_i hc
        cases har
        simp only [Bool.and_eq_true, Nat.blt_eq, Nat.beq_eq] at hc
        obtain ⟨⟨c1, c2⟩, c3⟩ := hc
        have htk : st.take E.2.2.2.2.2.1 = as.reverse ++ [.ref a] := by
          have := congrArg List.reverse hta
          simpa using this
        have hst : st = as.reverse ++ .ref a :: st.drop E.2.2.2.2.2.1 := by
          have := (List.take_append_drop E.2.2.2.2.2.1 st).symm
          rw [htk] at this
          simpa using this
        have hstack : (F0 m pc arr (st.map (xv (xad z sa)))).stack = (as.map (xv (xad z sa))).reverse ++ .ref (z + a) :: (st.drop E.2.2.2.2.2.1).map (xv (xad z sa)) := by
          show st.map (xv (xad z sa)) = _
          conv => lhs; rw [hst]
          simp [xv, xad]
        obtain ⟨k0, k2, -⟩ := x_kc _ o4
        have k1 := x_k2 k0
        have hcls : (xkC E.2.2.2.2.1).1 = E.1.cls := by
          rw [w6]
          generalize E.2.2.2.2.1 = o at o4
          rcases (show o = 0 ∨ o = 1 ∨ o = 2 ∨ o = 3 ∨ o = 4 ∨ o = 5 ∨ o = 6 ∨ o = 7 ∨ o = 8 ∨ o = 9 by omega) with q | q | q | q | q | q | q | q | q | q <;> rw [q] <;> rfl
        have hrecv : ∃ cellB : Cell, H[z + a]? = some cellB ∧ cellB.vm.isStatics = false ∧ s.vm.findClass E.1.cls = some cellB.cls := by
          have := va_recv hK a2 k1 ((xW_at cy (xad z sa) σ c1).trans (by rw [xC_obj c2 o4]))
          rw [hcls] at this
          exact this
        have hlenS : ∀ sig, parseMethodDescriptor E.1.desc = some sig → as.length = sig.parameters.length := fun sig hs => by
          rw [hs, o2] at w9
          simp at w9
          omega
        obtain ⟨v1, v2⟩ := w4 o2
        have hsel : (Cond.selects E.1.cls E.1 E.1).before args s = true := by
          rcases v2 with v2 | v2
          · rw [v2] at o3
            simp at o3
          · exact hts _ (xTs_of v2 rfl)
        rcases o5 with o5 | o5
        · exact x_callk (va_runV (As := as.map (xv (xad z sa))) (rest := (st.drop E.2.2.2.2.2.1).map (xv (xad z sa))) hfix hM ⟨⟨rfl, rfl, hfr, hlo, hwords, List.mem_cons_self, hcode0, hini0, ⟨w7, w8⟩, hlenS, hlinkV _ o5⟩, hts _ (xTs_of v1 rfl), hsel⟩ ⟨x_blind hZst, hrecv, hpre⟩ rfl (by simp) hsize hstack hroom2 (xl1 rfl (by decide) hlen hdg) hf) a6 hgo
        · exact x_callk (va_runVN (host := xHost (xE k).2.2.2.2.1) (As := as.map (xv (xad z sa))) (rest := (st.drop E.2.2.2.2.2.1).map (xv (xad z sa))) hfix hM ⟨⟨⟨rfl, rfl, hfr, hlo, hwords, List.mem_cons_self⟩, hcode0, hini0, ⟨w7, w8⟩, hlenS, hlinkN _ o5⟩, hts _ (xTs_of v1 rfl), hsel⟩ ⟨x_blind hZst, hrecv, hpre⟩ rfl (by simp) hsize hstack hroom2 (xl1 rfl (by decide) hlen hdg) hf) a6 hgo
      · cases har
    · cases har
  · -- a constructor
    rename_i ix
    have hn9 : Nat.beq rn 9000 = false := by
      cases hq : Nat.beq rn 9000 with
      | false => rfl
      | true => rw [Nat.beq_eq] at hq; omega
    simp only [xokI, hn9, cond_false, Bool.and_eq_true, Bool.or_eq_true, Nat.blt_eq, Bool.not_eq_true', hcal, decide_eq_true_eq] at hok
    obtain ⟨⟨⟨-, o2⟩, o3⟩, o5⟩ := hok
    split at har
    · rename_i a as hta
      rw [Bool.cond_eq_ite] at har
      split at har
      · rename_i c3
        cases har
        rw [Nat.beq_eq] at c3
        have htk : st.take E.2.2.2.2.2.1 = as.reverse ++ [.ref a] := by
          have := congrArg List.reverse hta
          simpa using this
        have hst : st = as.reverse ++ .ref a :: st.drop E.2.2.2.2.2.1 := by
          have := (List.take_append_drop E.2.2.2.2.2.1 st).symm
          rw [htk] at this
          simpa using this
        have hstack : (F0 m pc arr (st.map (xv (xad z sa)))).stack = (as.map (xv (xad z sa))).reverse ++ .ref (z + a) :: (st.drop E.2.2.2.2.2.1).map (xv (xad z sa)) := by
          show st.map (xv (xad z sa)) = _
          conv => lhs; rw [hst]
          simp [xv, xad]
        have hlenS : ∀ sig, parseMethodDescriptor E.1.desc = some sig → as.length = sig.parameters.length := fun sig hs => by
          rw [hs, o2] at w9
          simp at w9
          omega
        obtain ⟨v1, v2⟩ := w4 o2
        have hnone := w11 o3
        rw [hnone] at hM hcode0 hwords
        rcases o5 with o5 | o5
        · exact x_callk (va_runI (As := as.map (xv (xad z sa))) (rest := (st.drop E.2.2.2.2.2.1).map (xv (xad z sa))) hfix hM ⟨⟨rfl, rfl, hfr, hlo, hwords, List.mem_cons_self, hcode0, hini0, ⟨w7, w8⟩, hlenS, hlinkV _ o5⟩, o3, hts _ (xTs_of v1 rfl)⟩ ⟨x_blind hZst, hpre⟩ rfl (by simp) hsize hstack hroom2 (xl1 rfl (by decide) hlen hdg) hf) a6 hgo
        · exact x_callk (va_runIN (host := xHost (xE k).2.2.2.2.1) (As := as.map (xv (xad z sa))) (rest := (st.drop E.2.2.2.2.2.1).map (xv (xad z sa))) hfix hM ⟨⟨⟨rfl, rfl, hfr, hlo, hwords, List.mem_cons_self⟩, hcode0, hini0, ⟨w7, w8⟩, hlenS, hlinkN _ o5⟩, o3, hts _ (xTs_of v1 rfl)⟩ ⟨x_blind hZst, hpre⟩ rfl (by simp) hsize hstack hroom2 (xl1 rfl (by decide) hlen hdg) hf) a6 hgo
      · cases har
    · cases har
  · -- static
    rename_i ix
    have hn1 : Nat.beq rn 9001 = false := by
      cases hq : Nat.beq rn 9001 with
      | false => rfl
      | true => rw [Nat.beq_eq] at hq; omega
    have hn2 : Nat.beq rn 9002 = false := by
      cases hq : Nat.beq rn 9002 with
      | false => rfl
      | true => rw [Nat.beq_eq] at hq; omega
    have hn3 : Nat.beq rn 9003 = false := by
      cases hq : Nat.beq rn 9003 with
      | false => rfl
      | true => rw [Nat.beq_eq] at hq; omega
    simp only [xokI, hn1, hn2, hn3, cond_false, Bool.and_eq_true, Bool.or_eq_true, Nat.blt_eq, hcal] at hok
    obtain ⟨⟨-, o2⟩, o5⟩ := hok
    rw [Bool.cond_eq_ite] at har
    split at har
    · rename_i c3
      cases har
      rw [Nat.beq_eq] at c3
      have hstack : (F0 m pc arr (st.map (xv (xad z sa)))).stack = ((st.take E.2.2.2.2.2.1).reverse.map (xv (xad z sa))).reverse ++ (st.drop E.2.2.2.2.2.1).map (xv (xad z sa)) := by
        show st.map (xv (xad z sa)) = _
        rw [← List.map_reverse, List.reverse_reverse, ← List.map_append, List.take_append_drop]
      have hlenS : ∀ sig, parseMethodDescriptor E.1.desc = some sig → E.2.2.2.2.2.1 = sig.parameters.length := fun sig hs => by
        rw [hs, o2] at w9
        simp at w9
        omega
      rcases o5 with o5 | o5
      · exact x_callk (va_runS (As := (st.take E.2.2.2.2.2.1).reverse.map (xv (xad z sa))) (rest := (st.drop E.2.2.2.2.2.1).map (xv (xad z sa))) hfix hM ⟨⟨rfl, rfl, hfr, hlo, hwords, List.mem_cons_self, hcode0, hini0, ⟨w7, w8⟩, hlenS, hlinkV _ o5⟩, hts _ (xTs_of (w3 o2) rfl)⟩ ⟨x_blind hZst, hpre⟩ rfl (by simp only [List.length_map, List.length_reverse]; exact c3) hsize hstack hroom2 (xl1 rfl (by decide) hlen hdg) hf) a6 hgo
      · exact x_callk (va_runSN (host := xHost (xE k).2.2.2.2.1) (As := (st.take E.2.2.2.2.2.1).reverse.map (xv (xad z sa))) (rest := (st.drop E.2.2.2.2.2.1).map (xv (xad z sa))) hfix hM ⟨⟨⟨rfl, rfl, hfr, hlo, hwords, List.mem_cons_self⟩, hcode0, hini0, ⟨w7, w8⟩, hlenS, hlinkN _ o5⟩, hts _ (xTs_of (w3 o2) rfl), trivial⟩ ⟨x_blind hZst, hpre⟩ rfl (by simp only [List.length_map, List.length_reverse]; exact c3) hsize hstack hroom2 (xl1 rfl (by decide) hlen hdg) hf) a6 hgo
    · cases har
  · cases har
/-- a method's contract out of its body -/
theorem x_metOf {d k : Nat} {as : List Value} {σ σ' : xM} {r : Option Value} (hk : k < 274) (hfl : (xflat as).length ≤ (xE k).2.2.1)
    (ih : ∀ (p : Program) (e : Env) (R : Room) (s : State) (m : MethodId) (args : Array Value) (below : List Frame) (meth : Method) (c : Code) (n0 u0 : Nat), xCx dd cy sa p s m args meth c k → meth.sig.returnType = (xE k).2.2.2.1 → meth.locks = false → Zs s → (d ≤ R.frames ∧ 42 * d ≤ R.locals) → s.heap.size = z + n0 → n0 ≤ mN σ → u0 ≤ mU σ → (mN σ' - n0 ≤ R.cells ∧ mU σ' - u0 ≤ R.slots) →
      xG p l e R s m args below meth c (MQ below (xQ dd cy z sa Zs r σ') args s (mN σ' - n0) (mU σ' - u0) (fun q => z ≤ q)) dd cy z sa n0 u0 0 (xent as (xE k).2.2.1) [] σ) : xMetP l dd cy z sa Zs d k as σ r σ' := by
  obtain ⟨w1, w2, w3, w4, w5, w6, w7, w10, w11⟩ := x_meAt hk
  refine Met.ofW (cc := (xE k).2.1) (maxL := (xE k).2.2.1) (ret := (xE k).2.2.2.1) w5 rfl ?_
  intro p e s m args below meth c s₁ B hml hv
  obtain ⟨rfl, hsz, hP, hK, hZ, hZs⟩ := hv
  have hts := atoms_spec (ws := Cond.code (xE k).1 (xE k).2.1 (xE k).2.2.1 (xE k).2.2.2.1 :: xTs) B.pre
  have hown : s.vm.findClass (xE k).1.cls = some m.cls := findClass_of_methodNamed B.named
  rw [w6] at hown
  have hG := ih p e (xRm d (mN σ' - mN σ) (mU σ' - mU σ)) s m _ below meth c (mN σ) (mU σ) ⟨B.exec, B.bytes, hml, hown, fun w hw => hts w (List.mem_cons_of_mem _ hw), (name_of_methodNamed B.named B.method).1, hK, hZ⟩ B.returns B.notSynchronized hZs ⟨Nat.le_refl _, Nat.le_refl _⟩ hsz (Nat.le_refl _) (Nat.le_refl _) ⟨Nat.le_refl _, Nat.le_refl _⟩
  rw [lg_entry_eq]
  have hk2 := hG _ s.heap [] (by rw [hml]; exact xL_ent (xad z sa) as hfl) hP (Nat.le_refl _) (Nat.le_refl _) va_S.rf
  rw [Nat.sub_self, Nat.sub_self] at hk2
  exact hk2
end XR
/-- RUNS: what the small machine answers, the machine answers -/
theorem x_sound {l : Launch} {dd : va_G} {cy : Nat → ClassId} {z : Nat} {sa : UInt32 → Nat} {Zs : State → Prop} {prim : Nat → Nat → List Value → xM → Option (Option Value × xM)} (hZst : xZst z Zs) (hpm : xpm prim) (hprim : ∀ (d k : Nat) (as : List Value) (σ : xM) (y : Option Value × xM), prim d k as σ = some y → xMetP l dd cy z sa Zs d k as σ y.1 y.2) :
    ∀ (n d k pc : Nat) (ls st : List Value) (σ : xM) (r : Option Value) (σ' : xM), xex prim n d k pc ls st σ = some (r, σ') →
      ∀ (p : Program) (e : Env) (R : Room) (s : State) (m : MethodId) (args : Array Value) (below : List Frame) (meth : Method) (c : Code) (n0 u0 : Nat), xCx dd cy sa p s m args meth c k → meth.sig.returnType = (xE k).2.2.2.1 → meth.locks = false → Zs s → (d ≤ R.frames ∧ 42 * d ≤ R.locals) → s.heap.size = z + n0 → n0 ≤ mN σ → u0 ≤ mU σ → (mN σ' - n0 ≤ R.cells ∧ mU σ' - u0 ≤ R.slots) →
      xG p l e R s m args below meth c (MQ below (xQ dd cy z sa Zs r σ') args s (mN σ' - n0) (mU σ' - u0) (fun q => z ≤ q)) dd cy z sa n0 u0 pc ls st σ := by
  intro n
  induction n with
  | zero => intro d k pc ls st σ r σ' h; cases h
  | succ n ih =>
    intro d k pc ls st σ r σ' h p e R s m args below meth c n0 u0 C hret hlocks hZs hR hz h0 h0u hcap
    unfold xex at h
    split at h
    · cases h
    · rename_i en hcode
      obtain ⟨hokE, hpc, hk⟩ := x_code hcode
      obtain ⟨pc0, i, len, rn, ri, rl⟩ := en
      simp only at hpc
      subst hpc
      simp only [xokE, Bool.and_eq_true, decide_eq_true_eq, Bool.or_eq_true, beq_iff_eq] at hokE
      obtain ⟨⟨hdg, hlen⟩, hok⟩ := hokE
      simp only at h
      split at h
      · rename_i x hs
        have hm1 := xstep_mono hs
        have hm2 := xex_mono hpm _ _ _ _ _ _ _ _ h
        simp only at hm2
        exact x_step i p l e R s m args below meth c _ dd cy z sa n0 u0 k d pc0 len rn ri rl ls st σ x.1 x.2.1 x.2.2.1 x.2.2.2 C hR hz ⟨by omega, by omega⟩ hdg hlen hok hs (ih _ _ _ _ _ _ _ _ h p e R s m args below meth c n0 u0 C hret hlocks hZs hR hz (by omega) (by omega) hcap)
      · rename_i hns
        split at h
        · rename_i r0 hrt
          cases h
          exact x_ret hZst C hret hlocks hZs hz hdg hlen hrt
        · split at h
          · cases h
          · rename_i ar har
            split at h
            · cases h
            · rename_i d'
              rw [Bool.cond_eq_ite] at h
              split at h
              · rename_i hc
                simp only [Bool.and_eq_true] at hc
                split at h
                · rename_i y hy
                  have hrn : rn < 274 := by
                    have := hc.2
                    rwa [Nat.blt_eq] at this
                  have hm2 := xex_mono hpm _ _ _ _ _ _ _ _ h
                  simp only at hm2
                  have hM : (mN σ ≤ mN y.2 ∧ mU σ ≤ mU y.2) ∧ xMetP l dd cy z sa Zs d' rn ar.1 σ y.1 y.2 := by
                    split at hy
                    · rename_i hp
                      cases hy
                      exact ⟨hpm _ _ _ _ _ hp, hprim _ _ _ _ _ hp⟩
                    · exact ⟨xex_mono hpm _ _ _ _ _ _ _ _ hy, x_metOf hrn (Nat.le_of_ble_eq_true hc.1.2) (ih _ _ _ _ _ _ _ _ hy)⟩
                  exact x_call hZst C hZs hR hz ⟨by omega, by omega⟩ hM.1 hdg hlen hok har hns hc.1.1 hrn hM.2 (ih _ _ _ _ _ _ _ _ h p e R s m args below meth c n0 u0 C hret hlocks hZs hR hz (by omega) (by omega) hcap)
                · cases h
              · cases h
/-- a run of a method: its contract -/
theorem x_run {l : Launch} {dd : va_G} {cy : Nat → ClassId} {z : Nat} {sa : UInt32 → Nat} {Zs : State → Prop} {prim : Nat → Nat → List Value → xM → Option (Option Value × xM)} (hZst : xZst z Zs) (hpm : xpm prim) (hprim : ∀ (d k : Nat) (as : List Value) (σ : xM) (y : Option Value × xM), prim d k as σ = some y → xMetP l dd cy z sa Zs d k as σ y.1 y.2)
    {n d k : Nat} {as : List Value} {σ : xM} {r : Option Value} {σ' : xM} (hk : k < 274) (hfl : (xflat as).length ≤ (xE k).2.2.1) (h : xex prim n d k 0 (xent as (xE k).2.2.1) [] σ = some (r, σ')) : xMetP l dd cy z sa Zs d k as σ r σ' :=
  x_metOf hk hfl (x_sound hZst hpm hprim n d k 0 _ _ _ _ _ h)
end
section
/-! runs as a judgement; the heap's operations as partial functions; a row for each -/
/-- the texts' numbers: 'city' .. 'give' as LastAskedModel packs them -/
def xpk (b : UInt32) : Option Int64 := [3453753, 8705618, 7644339, 17340056046, 14714930, 1689771172, 8559938564, 23247316, 3124, 16850601398, 20195988, 24532640932, 153628165, 8243, 4372659, 52, 0][b.toNat]?
/-- (drafted: the numbers are checked with packed's contract) -/
def xprim (d k : Nat) (as : List Value) (σ : xM) : Option (Option Value × xM) := bif Nat.beq k 164 && Nat.ble 5 d then (match as with
  | [.float b] => (xpk b).map (fun v => (some (.long v), σ))
  | _ => none) else none
def Rn (d k pc : Nat) (ls st : List Value) (σ : xM) (y : Option Value × xM) : Prop := ∃ n, xex xprim n d k pc ls st σ = some y
theorem xex_more : ∀ (n m d k pc : Nat) (ls st : List Value) (σ : xM) (y : Option Value × xM), xex xprim n d k pc ls st σ = some y → xex xprim (n + m) d k pc ls st σ = some y := by
  intro n
  induction n with
  | zero => intro m d k pc ls st σ y h; cases h
  | succ n ih =>
    intro m d k pc ls st σ y h
    rw [show n + 1 + m = (n + m) + 1 by omega]
    unfold xex at h ⊢
    split at h
    · cases h
    · rename_i en hcode
      try rw [hcode]
      split at h
      · rename_i hs
        try simp only [hs]
        exact ih m _ _ _ _ _ _ _ h
      · rename_i hs
        try simp only [hs]
        split at h
        · rename_i hr
          try simp only [hr]
          exact h
        · rename_i hr
          try simp only [hr]
          split at h
          · cases h
          · rename_i ar har
            try simp only [har]
            split at h
            · cases h
            · rename_i d'
              rw [Bool.cond_eq_ite] at h ⊢
              split at h
              · rename_i hc
                rw [if_pos hc]
                split at h
                · rename_i y1 hy1
                  cases hp : xprim d' en.2.2.2.1 ar.1 σ with
                  | some y0 =>
                    rw [hp] at hy1
                    cases hy1
                    exact ih m _ _ _ _ _ _ _ h
                  | none =>
                    rw [hp] at hy1
                    simp only [ih m _ _ _ _ _ _ _ hy1]
                    exact ih m _ _ _ _ _ _ _ h
                · cases h
              · cases h
def xsteps (d k : Nat) : Nat → Nat → List Value → List Value → xM → Option xSt
  | 0, pc, ls, st, σ => some (pc, ls, st, σ)
  | n + 1, pc, ls, st, σ => match xcode k pc with
    | none => none
    | some en => match xstep d en.2.1 en.2.2.2.1 en.2.2.2.2.1 en.2.2.2.2.2 pc ls st σ with
      | some x => xsteps d k n x.1 x.2.1 x.2.2.1 x.2.2.2
      | none => none
section RN
variable {d k pc : Nat} {ls st : List Value} {σ : xM} {y : Option Value × xM}
theorem rn_step {en : xCe} {pc' : Nat} {ls' st' : List Value} {σ' : xM} (hc : xcode k pc = some en) (hs : xstep d en.2.1 en.2.2.2.1 en.2.2.2.2.1 en.2.2.2.2.2 pc ls st σ = some (pc', ls', st', σ')) (h : Rn d k pc' ls' st' σ' y) : Rn d k pc ls st σ y := by
  obtain ⟨n, h⟩ := h
  refine ⟨n + 1, ?_⟩
  unfold xex
  rw [hc]
  simp only [hs]
  exact h
theorem rn_steps : ∀ (n : Nat) {pc : Nat} {ls st : List Value} {σ : xM} (pc' : Nat) (ls' st' : List Value) {σ' : xM}, xsteps d k n pc ls st σ = some (pc', ls', st', σ') → Rn d k pc' ls' st' σ' y → Rn d k pc ls st σ y
  | 0, pc, ls, st, σ, pc', ls', st', σ', hs, h => by
    cases hs
    exact h
  | n + 1, pc, ls, st, σ, pc', ls', st', σ', hs, h => by
    unfold xsteps at hs
    split at hs
    · cases hs
    · rename_i en hc
      split at hs
      · rename_i x hx
        exact rn_step hc hx (rn_steps n pc' ls' st' hs h)
      · cases hs
theorem rn_ret {en : xCe} {r : Option Value} (hc : xcode k pc = some en) (hs : xstep d en.2.1 en.2.2.2.1 en.2.2.2.2.1 en.2.2.2.2.2 pc ls st σ = none) (hr : xret en.2.1 (xE k).2.2.2.1 st = some r) : Rn d k pc ls st σ (r, σ) := by
  refine ⟨1, ?_⟩
  unfold xex
  rw [hc]
  simp only [hs, hr]
theorem rn_call0 {en : xCe} {as rest : List Value} {r1 : Option Value} {σ1 : xM} (hc : xcode k pc = some en) (hs : xstep (d + 1) en.2.1 en.2.2.2.1 en.2.2.2.2.1 en.2.2.2.2.2 pc ls st σ = none) (hr : xret en.2.1 (xE k).2.2.2.1 st = none) (ha : xargs en.2.1 en.2.2.2.1 st σ = some (as, rest))
    (hok : (xsr rest && Nat.ble ((xflat as).length) (xE en.2.2.2.1).2.2.1 && Nat.blt en.2.2.2.1 274) = true) (hcall : (∃ v, xprim d en.2.2.2.1 as σ = some v ∧ v = (r1, σ1)) ∨ (xprim d en.2.2.2.1 as σ = none ∧ Rn d en.2.2.2.1 0 (xent as (xE en.2.2.2.1).2.2.1) [] σ (r1, σ1))) (h : Rn (d + 1) k (pc + 3) ls (r1.toList ++ rest) σ1 y) : Rn (d + 1) k pc ls st σ y := by
  obtain ⟨n, h⟩ := h
  rcases hcall with ⟨v, hp, rfl⟩ | ⟨hp, n2, h2⟩
  · refine ⟨n + 1, ?_⟩
    unfold xex
    rw [hc]
    simp only [hs, hr, ha, hok, cond_true, hp]
    exact h
  · refine ⟨n + n2 + 1, ?_⟩
    unfold xex
    rw [hc]
    simp only [hs, hr, ha, hok, cond_true, hp]
    have h3 := xex_more n2 n _ _ _ _ _ _ _ h2
    rw [Nat.add_comm n2 n] at h3
    simp only [h3]
    exact xex_more n n2 _ _ _ _ _ _ _ h
/-- an object of class c -/
def cO (σ : xM) (a c : Nat) : Option Unit := bif Nat.blt a (mN σ) && Nat.beq (mK σ a) c then some () else none
theorem cO_ok {σ : xM} {a c : Nat} {u : Unit} (h : cO σ a c = some u) : (Nat.blt a (mN σ) && Nat.beq (mK σ a) c) = true := by
  unfold cO at h
  cases hb : (Nat.blt a (mN σ) && Nat.beq (mK σ a) c) with
  | true => rfl
  | false => rw [hb] at h; cases h
def gI (σ : xM) (a c k : Nat) : Option Int32 := bif Nat.blt a (mN σ) && Nat.beq (mK σ a) c then some (mI σ a k) else none
def gJ (σ : xM) (a c k : Nat) : Option Int64 := bif Nat.blt a (mN σ) && Nat.beq (mK σ a) c then some (mJ σ a k) else none
/-- a reference that may be null -/
def gQ (σ : xM) (a c k : Nat) : Option (Option Nat) := bif Nat.blt a (mN σ) && Nat.beq (mK σ a) c then some (mR σ a k) else none
def gR (σ : xM) (a c k : Nat) : Option Nat := bif Nat.blt a (mN σ) && Nat.beq (mK σ a) c then mR σ a k else none
def pI (σ : xM) (a c k : Nat) (x : Int32) : Option xM := bif Nat.blt a (mN σ) && Nat.beq (mK σ a) c then some (sI σ (up2 (mI σ) a k x)) else none
def pZ (σ : xM) (a c k : Nat) (x : Int32) : Option xM := bif Nat.blt a (mN σ) && Nat.beq (mK σ a) c && decide (x = 0 ∨ x = 1) then some (sI σ (up2 (mI σ) a k x)) else none
def pJ (σ : xM) (a c k : Nat) (x : Int64) : Option xM := bif Nat.blt a (mN σ) && Nat.beq (mK σ a) c then some (sJ σ (up2 (mJ σ) a k x)) else none
def pR (σ : xM) (a c k : Nat) (b : Nat) : Option xM := bif Nat.blt a (mN σ) && Nat.beq (mK σ a) c then some (sR σ (up2 (mR σ) a k (some b))) else none
def aI (σ : xM) (a : Nat) (j : Int32) : Option Int32 := bif Nat.blt a (mN σ) && Nat.beq (mK σ a) 11 && xinB j (mL σ a) then some (mI σ a j.toNatClampNeg) else none
def aB (σ : xM) (a : Nat) (j : Int32) : Option Int32 := bif Nat.blt a (mN σ) && Nat.beq (mK σ a) 10 && xinB j (mL σ a) then some (mI σ a j.toNatClampNeg) else none
def aJ (σ : xM) (a : Nat) (j : Int32) : Option Int64 := bif Nat.blt a (mN σ) && Nat.beq (mK σ a) 12 && xinB j (mL σ a) then some (mJ σ a j.toNatClampNeg) else none
def aR (σ : xM) (a : Nat) (j : Int32) : Option Nat := bif Nat.blt a (mN σ) && Nat.beq (mK σ a) 13 && xinB j (mL σ a) then mR σ a j.toNatClampNeg else none
def tI (σ : xM) (a : Nat) (j : Int32) (x : Int32) : Option xM := bif Nat.blt a (mN σ) && Nat.beq (mK σ a) 11 && xinB j (mL σ a) then some (sI σ (up2 (mI σ) a j.toNatClampNeg x)) else none
def tB (σ : xM) (a : Nat) (j : Int32) (x : Int32) : Option xM := bif Nat.blt a (mN σ) && Nat.beq (mK σ a) 10 && xinB j (mL σ a) then some (sI σ (up2 (mI σ) a j.toNatClampNeg (x.toInt8.toInt32))) else none
def tJ (σ : xM) (a : Nat) (j : Int32) (x : Int64) : Option xM := bif Nat.blt a (mN σ) && Nat.beq (mK σ a) 12 && xinB j (mL σ a) then some (sJ σ (up2 (mJ σ) a j.toNatClampNeg x)) else none
def tR (σ : xM) (a : Nat) (j : Int32) (b : Nat) : Option xM := bif Nat.blt a (mN σ) && Nat.beq (mK σ a) 13 && xinB j (mL σ a) && Nat.blt b (mN σ) && Nat.beq (mK σ b) 4 then some (sR σ (up2 (mR σ) a j.toNatClampNeg (some b))) else none
def nA (σ : xM) (c : Nat) (n : Int32) : Option xM := bif xinB n 2000 then some (sNew σ c n.toNatClampNeg n.toNatClampNeg) else none
def cp (σ : xM) (b : Nat) (sp : Int32) (a : Nat) (dp n : Int32) : Option xM := bif Nat.blt a (mN σ) && Nat.beq (mK σ a) 11 && Nat.blt b (mN σ) && Nat.beq (mK σ b) 11 && !(decide (sp < 0)) && !(decide (dp < 0)) && !(decide (n < 0)) && Nat.ble (sp.toNatClampNeg + n.toNatClampNeg) (mL σ b) && Nat.ble (dp.toNatClampNeg + n.toNatClampNeg) (mL σ a) then some (sI σ (va_up (mI σ) a (va_cpy (mI σ b) (mI σ a) sp.toNatClampNeg dp.toNatClampNeg n.toNatClampNeg))) else none
def dI (x y : Int32) : Option Int32 := if y = 0 then none else some (x / y)
def rI (x y : Int32) : Option Int32 := if y = 0 then none else some (x - x / y * y)
def dJ (x y : Int64) : Option Int64 := if y = 0 then none else some (x / y)
def rJ (x y : Int64) : Option Int64 := if y = 0 then none else some (x - x / y * y)
/-- a boolean is answered -/
def rZ (x : Int32) (σ : xM) : Option (Int32 × xM) := if x = 0 ∨ x = 1 then some (x, σ) else none
theorem cb {α : Type} {b : Bool} {x : Option α} {v : α} (h : (bif b then x else none) = some v) : b = true ∧ x = some v := by
  cases b
  · cases h
  · exact ⟨rfl, h⟩
theorem rn_gI {a c f p0 ix len rn : Nat} {ri : Int32} {rl : Int64} {x : Int32} (hc : xcode k pc = some (p0, .getfield ix, len, rn, ri, rl)) (h1 : rn = c * 100 + f) (h2 : (rn / 100 = c ∧ rn % 100 = f) ∧ (xT c f = 0 ∨ xT c f = 3)) (hv : gI σ a c f = some x) (h : Rn d k (pc + 3) ls (.int x :: st) σ y) : Rn d k pc ls (.ref a :: st) σ y := by
  obtain ⟨hb, hx⟩ := cb hv
  cases hx
  refine rn_step hc ?_ h
  obtain ⟨⟨e1, e2⟩, e3⟩ := h2
  simp only [xstep, e1, e2, hb, cond_true]
  rcases e3 with e3 | e3 <;> rw [e3] <;> rfl
theorem rn_gJ {a c f p0 ix len rn : Nat} {ri : Int32} {rl : Int64} {x : Int64} (hc : xcode k pc = some (p0, .getfield ix, len, rn, ri, rl)) (h1 : rn = c * 100 + f) (h2 : (rn / 100 = c ∧ rn % 100 = f) ∧ xT c f = 1) (hv : gJ σ a c f = some x) (h : Rn d k (pc + 3) ls (.long x :: st) σ y) : Rn d k pc ls (.ref a :: st) σ y := by
  obtain ⟨hb, hx⟩ := cb hv
  cases hx
  refine rn_step hc ?_ h
  obtain ⟨⟨e1, e2⟩, e3⟩ := h2
  simp only [xstep, e1, e2, hb, cond_true]
  rw [e3]
  rfl
theorem rn_gQ {a c f p0 ix len rn : Nat} {ri : Int32} {rl : Int64} {x : Option Nat} (hc : xcode k pc = some (p0, .getfield ix, len, rn, ri, rl)) (h1 : rn = c * 100 + f) (h2 : (rn / 100 = c ∧ rn % 100 = f) ∧ xT c f = 2) (hv : gQ σ a c f = some x) (h : Rn d k (pc + 3) ls (xrv x :: st) σ y) : Rn d k pc ls (.ref a :: st) σ y := by
  obtain ⟨hb, hx⟩ := cb hv
  cases hx
  refine rn_step hc ?_ h
  obtain ⟨⟨e1, e2⟩, e3⟩ := h2
  simp only [xstep, e1, e2, hb, cond_true]
  rw [e3]
  rfl
theorem rn_gR {a c f p0 ix len rn x : Nat} {ri : Int32} {rl : Int64} (hc : xcode k pc = some (p0, .getfield ix, len, rn, ri, rl)) (h1 : rn = c * 100 + f) (h2 : (rn / 100 = c ∧ rn % 100 = f) ∧ xT c f = 2) (hv : gR σ a c f = some x) (h : Rn d k (pc + 3) ls (.ref x :: st) σ y) : Rn d k pc ls (.ref a :: st) σ y := by
  obtain ⟨hb, hx⟩ := cb hv
  refine rn_gQ (x := some x) hc h1 h2 ?_ h
  unfold gQ
  rw [hb, hx]
  rfl
theorem rn_put {a c f t p0 ix len rn : Nat} {ri : Int32} {rl : Int64} {v : Value} {σ1 : xM} (hc : xcode k pc = some (p0, .putfield ix, len, rn, ri, rl)) (h2 : (rn / 100 = c ∧ rn % 100 = f) ∧ xT c f = t) (hb : (Nat.blt a (mN σ) && Nat.beq (mK σ a) c) = true) (hx : xfp σ a f t v = some σ1) (h : Rn d k (pc + 3) ls st σ1 y) : Rn d k pc ls (v :: .ref a :: st) σ y := by
  refine rn_step hc ?_ h
  obtain ⟨⟨e1, e2⟩, e3⟩ := h2
  simp only [xstep, e1, e2, hb, cond_true, e3, hx]
theorem rn_pI {a c f p0 ix len rn : Nat} {ri x : Int32} {rl : Int64} {σ1 : xM} (hc : xcode k pc = some (p0, .putfield ix, len, rn, ri, rl)) (h1 : rn = c * 100 + f) (h2 : (rn / 100 = c ∧ rn % 100 = f) ∧ xT c f = 0) (hv : pI σ a c f x = some σ1) (h : Rn d k (pc + 3) ls st σ1 y) : Rn d k pc ls (.int x :: .ref a :: st) σ y := by
  obtain ⟨hb, hx⟩ := cb hv
  exact rn_put hc h2 hb hx h
theorem rn_pZ {a c f p0 ix len rn : Nat} {ri x : Int32} {rl : Int64} {σ1 : xM} (hc : xcode k pc = some (p0, .putfield ix, len, rn, ri, rl)) (h1 : rn = c * 100 + f) (h2 : (rn / 100 = c ∧ rn % 100 = f) ∧ xT c f = 3) (hv : pZ σ a c f x = some σ1) (h : Rn d k (pc + 3) ls st σ1 y) : Rn d k pc ls (.int x :: .ref a :: st) σ y := by
  obtain ⟨hb, hx⟩ := cb hv
  rw [Bool.and_eq_true] at hb
  refine rn_put hc h2 hb.1 ?_ h
  simp only [xfp]
  rw [if_neg (by decide), if_pos trivial, if_pos (of_decide_eq_true hb.2)]
  exact hx
theorem rn_pJ {a c f p0 ix len rn : Nat} {ri : Int32} {rl x : Int64} {σ1 : xM} (hc : xcode k pc = some (p0, .putfield ix, len, rn, ri, rl)) (h1 : rn = c * 100 + f) (h2 : (rn / 100 = c ∧ rn % 100 = f) ∧ xT c f = 1) (hv : pJ σ a c f x = some σ1) (h : Rn d k (pc + 3) ls st σ1 y) : Rn d k pc ls (.long x :: .ref a :: st) σ y := by
  obtain ⟨hb, hx⟩ := cb hv
  exact rn_put hc h2 hb hx h
theorem rn_pR {a c f b p0 ix len rn : Nat} {ri : Int32} {rl : Int64} {σ1 : xM} (hc : xcode k pc = some (p0, .putfield ix, len, rn, ri, rl)) (h1 : rn = c * 100 + f) (h2 : (rn / 100 = c ∧ rn % 100 = f) ∧ xT c f = 2) (hv : pR σ a c f b = some σ1) (h : Rn d k (pc + 3) ls st σ1 y) : Rn d k pc ls (.ref b :: .ref a :: st) σ y := by
  obtain ⟨hb, hx⟩ := cb hv
  exact rn_put hc h2 hb hx h
theorem rn_aI {a p0 len rn : Nat} {j ri x : Int32} {rl : Int64} (hc : xcode k pc = some (p0, .iaload, len, rn, ri, rl)) (hv : aI σ a j = some x) (h : Rn d k (pc + 1) ls (.int x :: st) σ y) : Rn d k pc ls (.int j :: .ref a :: st) σ y := by
  obtain ⟨hb, hx⟩ := cb hv
  cases hx
  refine rn_step hc ?_ h
  simp only [xstep, hb, cond_true]
theorem rn_aB {a p0 len rn : Nat} {j ri x : Int32} {rl : Int64} (hc : xcode k pc = some (p0, .baload, len, rn, ri, rl)) (hv : aB σ a j = some x) (h : Rn d k (pc + 1) ls (.int x :: st) σ y) : Rn d k pc ls (.int j :: .ref a :: st) σ y := by
  obtain ⟨hb, hx⟩ := cb hv
  cases hx
  refine rn_step hc ?_ h
  simp only [xstep, hb, cond_true]
theorem rn_aJ {a p0 len rn : Nat} {j ri : Int32} {rl x : Int64} (hc : xcode k pc = some (p0, .laload, len, rn, ri, rl)) (hv : aJ σ a j = some x) (h : Rn d k (pc + 1) ls (.long x :: st) σ y) : Rn d k pc ls (.int j :: .ref a :: st) σ y := by
  obtain ⟨hb, hx⟩ := cb hv
  cases hx
  refine rn_step hc ?_ h
  simp only [xstep, hb, cond_true]
theorem rn_aR {a p0 len rn x : Nat} {j ri : Int32} {rl : Int64} (hc : xcode k pc = some (p0, .aaload, len, rn, ri, rl)) (hv : aR σ a j = some x) (h : Rn d k (pc + 1) ls (.ref x :: st) σ y) : Rn d k pc ls (.int j :: .ref a :: st) σ y := by
  obtain ⟨hb, hx⟩ := cb hv
  refine rn_step hc ?_ h
  simp only [xstep, hb, cond_true, hx]
  rfl
theorem rn_tI {a p0 len rn : Nat} {j ri x : Int32} {rl : Int64} {σ1 : xM} (hc : xcode k pc = some (p0, .iastore, len, rn, ri, rl)) (hv : tI σ a j x = some σ1) (h : Rn d k (pc + 1) ls st σ1 y) : Rn d k pc ls (.int x :: .int j :: .ref a :: st) σ y := by
  obtain ⟨hb, hx⟩ := cb hv
  cases hx
  refine rn_step hc ?_ h
  simp only [xstep, hb, cond_true]
theorem rn_tB {a p0 len rn : Nat} {j ri x : Int32} {rl : Int64} {σ1 : xM} (hc : xcode k pc = some (p0, .bastore, len, rn, ri, rl)) (hv : tB σ a j x = some σ1) (h : Rn d k (pc + 1) ls st σ1 y) : Rn d k pc ls (.int x :: .int j :: .ref a :: st) σ y := by
  obtain ⟨hb, hx⟩ := cb hv
  cases hx
  refine rn_step hc ?_ h
  simp only [xstep, hb, cond_true]
theorem rn_tJ {a p0 len rn : Nat} {j ri : Int32} {rl x : Int64} {σ1 : xM} (hc : xcode k pc = some (p0, .lastore, len, rn, ri, rl)) (hv : tJ σ a j x = some σ1) (h : Rn d k (pc + 1) ls st σ1 y) : Rn d k pc ls (.long x :: .int j :: .ref a :: st) σ y := by
  obtain ⟨hb, hx⟩ := cb hv
  cases hx
  refine rn_step hc ?_ h
  simp only [xstep, hb, cond_true]
theorem rn_tR {a b p0 len rn : Nat} {j ri : Int32} {rl : Int64} {σ1 : xM} (hc : xcode k pc = some (p0, .aastore, len, rn, ri, rl)) (hv : tR σ a j b = some σ1) (h : Rn d k (pc + 1) ls st σ1 y) : Rn d k pc ls (.ref b :: .int j :: .ref a :: st) σ y := by
  obtain ⟨hb, hx⟩ := cb hv
  cases hx
  refine rn_step hc ?_ h
  simp only [xstep, hb, cond_true]
theorem rn_nA {t : ArrayType} {p0 len rn : Nat} {n ri : Int32} {rl : Int64} {σ1 : xM} (hc : xcode k pc = some (p0, .newarray t, len, rn, ri, rl)) (hv : nA σ rn n = some σ1) (h : Rn d k (pc + 2) ls (.ref (mN σ) :: st) σ1 y) : Rn d k pc ls (.int n :: st) σ y := by
  obtain ⟨hb, hx⟩ := cb hv
  cases hx
  refine rn_step hc ?_ h
  simp only [xstep, hb, cond_true]
theorem rn_nR {p0 len rn ix : Nat} {n ri : Int32} {rl : Int64} {σ1 : xM} (hc : xcode k pc = some (p0, .anewarray ix, len, rn, ri, rl)) (hv : nA σ 13 n = some σ1) (h : Rn d k (pc + 3) ls (.ref (mN σ) :: st) σ1 y) : Rn d k pc ls (.int n :: st) σ y := by
  obtain ⟨hb, hx⟩ := cb hv
  cases hx
  refine rn_step hc ?_ h
  simp only [xstep, hb, cond_true]
theorem rn_cp {a b p0 len ix : Nat} {sp dp n ri : Int32} {rl : Int64} {σ1 : xM} (hc : xcode k pc = some (p0, .invokestatic ix, len, 9003, ri, rl)) (hs : xsr st = true) (hv : cp σ b sp a dp n = some σ1) (h : Rn (d + 1) k (pc + 3) ls st σ1 y) : Rn (d + 1) k pc ls (.int n :: .int dp :: .ref a :: .int sp :: .ref b :: st) σ y := by
  obtain ⟨hb, hx⟩ := cb hv
  cases hx
  refine rn_step hc ?_ h
  simp only [Bool.and_eq_true] at hb
  simp only [xstep, show Nat.blt 0 (d + 1) = true from rfl, show Nat.beq 9003 9001 = false from rfl, show Nat.beq 9003 9002 = false from rfl, show Nat.beq 9003 9003 = true from rfl, cond_true, cond_false]
  rw [show (xsr st && Nat.blt a (mN σ) && Nat.beq (mK σ a) 11 && Nat.blt b (mN σ) && Nat.beq (mK σ b) 11 && !(decide (sp < 0)) && !(decide (dp < 0)) && !(decide (n < 0)) && Nat.ble (sp.toNatClampNeg + n.toNatClampNeg) (mL σ b) && Nat.ble (dp.toNatClampNeg + n.toNatClampNeg) (mL σ a)) = true by
    simp only [Bool.and_eq_true]
    obtain ⟨⟨⟨⟨⟨⟨⟨⟨c1, c2⟩, c3⟩, c4⟩, c5⟩, c6⟩, c7⟩, c8⟩, c9⟩ := hb
    exact ⟨⟨⟨⟨⟨⟨⟨⟨⟨hs, c1⟩, c2⟩, c3⟩, c4⟩, c5⟩, c6⟩, c7⟩, c8⟩, c9⟩]
  rfl
theorem rn_dI {p0 len rn : Nat} {ri x x2 v : Int32} {rl : Int64} (hc : xcode k pc = some (p0, .idiv, len, rn, ri, rl)) (hv : dI x x2 = some v) (h : Rn d k (pc + 1) ls (.int v :: st) σ y) : Rn d k pc ls (.int x2 :: .int x :: st) σ y := by
  unfold dI at hv
  split at hv
  · cases hv
  · rename_i hne
    cases hv
    exact rn_step hc (by simp only [xstep]; rw [if_neg hne]) h
theorem rn_rI {p0 len rn : Nat} {ri x x2 v : Int32} {rl : Int64} (hc : xcode k pc = some (p0, .irem, len, rn, ri, rl)) (hv : rI x x2 = some v) (h : Rn d k (pc + 1) ls (.int v :: st) σ y) : Rn d k pc ls (.int x2 :: .int x :: st) σ y := by
  unfold rI at hv
  split at hv
  · cases hv
  · rename_i hne
    cases hv
    exact rn_step hc (by simp only [xstep]; rw [if_neg hne]) h
theorem rn_dJ {p0 len rn : Nat} {ri : Int32} {rl x x2 v : Int64} (hc : xcode k pc = some (p0, .ldiv, len, rn, ri, rl)) (hv : dJ x x2 = some v) (h : Rn d k (pc + 1) ls (.long v :: st) σ y) : Rn d k pc ls (.long x2 :: .long x :: st) σ y := by
  unfold dJ at hv
  split at hv
  · cases hv
  · rename_i hne
    cases hv
    exact rn_step hc (by simp only [xstep]; rw [if_neg hne]) h
theorem rn_rJ {p0 len rn : Nat} {ri : Int32} {rl x x2 v : Int64} (hc : xcode k pc = some (p0, .lrem, len, rn, ri, rl)) (hv : rJ x x2 = some v) (h : Rn d k (pc + 1) ls (.long v :: st) σ y) : Rn d k pc ls (.long x2 :: .long x :: st) σ y := by
  unfold rJ at hv
  split at hv
  · cases hv
  · rename_i hne
    cases hv
    exact rn_step hc (by simp only [xstep]; rw [if_neg hne]) h
/-- two roads: 'c' is the condition under which the branch is taken -/
theorem rn_br {en : xCe} {c : Prop} {t : Nat} {st' : List Value} {b : Bool} (hc : xcode k pc = some en) (hs : xstep d en.2.1 en.2.2.2.1 en.2.2.2.2.1 en.2.2.2.2.2 pc ls st σ = some (bif b then t else pc + 3, ls, st', σ)) (hb : b = true ↔ c) (hT : c → Rn d k t ls st' σ y) (hF : ¬ c → Rn d k (pc + 3) ls st' σ y) : Rn d k pc ls st σ y := by
  cases b with
  | true => exact rn_step hc hs (hT (hb.mp rfl))
  | false => exact rn_step hc hs (hF (fun h => by have := hb.mpr h; cases this))
theorem rn_null {en : xCe} {q : Option Nat} (hc : xcode k pc = some en) (h1 : q = none → ∀ z, z = Value.null → Rn d k pc ls (z :: st) σ y) (h2 : ∀ b, q = some b → ∀ z, z = Value.ref b → Rn d k pc ls (z :: st) σ y) : Rn d k pc ls (xrv q :: st) σ y := by
  cases q with
  | none => exact h1 rfl _ rfl
  | some b => exact h2 b rfl _ rfl
theorem x_take (args rest : List Value) (v : Value) : (args.reverse ++ v :: rest).take (args.length + 1) = args.reverse ++ [v] ∧ (args.reverse ++ v :: rest).drop (args.length + 1) = rest := by
  constructor
  · rw [List.take_append, List.take_of_length_le (by simp)]
    simp
  · rw [List.drop_append]
    simp
theorem x_takeS (args rest : List Value) : (args.reverse ++ rest).take args.length = args.reverse ∧ (args.reverse ++ rest).drop args.length = rest := by
  constructor
  · rw [List.take_append, List.take_of_length_le (by simp)]
    simp
  · rw [List.drop_append]
    simp
theorem xprim_no {rn : Nat} {as : List Value} (hp : Nat.beq rn 164 = false) : xprim d rn as σ = none := by
  unfold xprim
  rw [hp]
  rfl
theorem rn_callV {p0 ix len rn a c : Nat} {ri : Int32} {rl : Int64} (args : List Value) {rest : List Value} {r1 : Option Value} {σ1 : xM} {u : Unit} (hc : xcode k pc = some (p0, .invokevirtual ix, len, rn, ri, rl)) (hst : st = args.reverse ++ .ref a :: rest) (hE : (xE rn).2.2.2.2.2.1 = args.length + 1 ∧ (xE rn).2.2.2.2.1 = c) (hO : cO σ a c = some u)
    (hok : (xsr rest && Nat.ble ((xflat (.ref a :: args)).length) (xE rn).2.2.1 && Nat.blt rn 274) = true) (hp : Nat.beq rn 164 = false) (hcall : Rn d rn 0 (xent (.ref a :: args) (xE rn).2.2.1) [] σ (r1, σ1)) (h : Rn (d + 1) k (pc + 3) ls (r1.toList ++ rest) σ1 y) : Rn (d + 1) k pc ls st σ y := by
  subst hst
  obtain ⟨t1, t2⟩ := x_take args rest (.ref a)
  refine rn_call0 hc rfl rfl ?_ hok (Or.inr ⟨xprim_no hp, hcall⟩) h
  simp only [xargs, hE.1, t1, t2, List.reverse_append, List.reverse_reverse, List.reverse_cons, List.reverse_nil, List.nil_append, List.cons_append, hE.2]
  rw [cO_ok hO, show Nat.beq (args.length + 1) (args.length + 1) = true by rw [Nat.beq_eq]]
  rfl
theorem rn_callI {p0 ix len rn a : Nat} {ri : Int32} {rl : Int64} (args : List Value) {rest : List Value} {r1 : Option Value} {σ1 : xM} (hc : xcode k pc = some (p0, .invokespecial ix, len, rn, ri, rl)) (hst : st = args.reverse ++ .ref a :: rest) (hE : (xE rn).2.2.2.2.2.1 = args.length + 1) (hn : Nat.beq rn 9000 = false)
    (hok : (xsr rest && Nat.ble ((xflat (.ref a :: args)).length) (xE rn).2.2.1 && Nat.blt rn 274) = true) (hp : Nat.beq rn 164 = false) (hcall : Rn d rn 0 (xent (.ref a :: args) (xE rn).2.2.1) [] σ (r1, σ1)) (h : Rn (d + 1) k (pc + 3) ls (r1.toList ++ rest) σ1 y) : Rn (d + 1) k pc ls st σ y := by
  subst hst
  obtain ⟨t1, t2⟩ := x_take args rest (.ref a)
  refine rn_call0 hc (by simp only [xstep, hn]; rfl) rfl ?_ hok (Or.inr ⟨xprim_no hp, hcall⟩) h
  simp only [xargs, hE, t1, t2, List.reverse_append, List.reverse_reverse, List.reverse_cons, List.reverse_nil, List.nil_append, List.cons_append]
  rw [show Nat.beq (args.length + 1) (args.length + 1) = true by rw [Nat.beq_eq]]
  rfl
theorem rn_callS {p0 ix len rn : Nat} {ri : Int32} {rl : Int64} (args : List Value) {rest : List Value} {r1 : Option Value} {σ1 : xM} (hc : xcode k pc = some (p0, .invokestatic ix, len, rn, ri, rl)) (hst : st = args.reverse ++ rest) (hE : (xE rn).2.2.2.2.2.1 = args.length) (hn : Nat.beq rn 9001 = false ∧ Nat.beq rn 9002 = false ∧ Nat.beq rn 9003 = false)
    (hok : (xsr rest && Nat.ble ((xflat args).length) (xE rn).2.2.1 && Nat.blt rn 274) = true) (hp : Nat.beq rn 164 = false) (hcall : Rn d rn 0 (xent args (xE rn).2.2.1) [] σ (r1, σ1)) (h : Rn (d + 1) k (pc + 3) ls (r1.toList ++ rest) σ1 y) : Rn (d + 1) k pc ls st σ y := by
  subst hst
  obtain ⟨t1, t2⟩ := x_takeS args rest
  refine rn_call0 hc (by simp only [xstep, hn.1, hn.2.1, hn.2.2]; rfl) rfl ?_ hok (Or.inr ⟨xprim_no hp, hcall⟩) h
  simp only [xargs, hE, t1, t2, List.reverse_reverse, List.length_reverse]
  rw [show Nat.beq args.length args.length = true by rw [Nat.beq_eq]]
  rfl
theorem rn_callP {p0 ix len : Nat} {ri : Int32} {rl v : Int64} {b : UInt32} {rest : List Value} (hc : xcode k pc = some (p0, .invokestatic ix, len, 164, ri, rl)) (hv : xpk b = some v) (hok : xsr rest = true) (h : Rn (d + 6) k (pc + 3) ls (.long v :: rest) σ y) : Rn (d + 6) k pc ls (.float b :: rest) σ y := by
  refine rn_call0 (d := d + 5) (as := [.float b]) (rest := rest) (r1 := some (.long v)) (σ1 := σ) hc rfl rfl rfl ?_ (Or.inl ⟨_, ?_, rfl⟩) h
  · rw [hok]
    rfl
  · unfold xprim
    rw [show (Nat.beq 164 164 && Nat.ble 5 (d + 5)) = true by
      rw [Bool.and_eq_true]
      exact ⟨rfl, Nat.ble_eq.mpr (by omega)⟩]
    simp only [cond_true, hv, Option.map_some]
end RN
end
