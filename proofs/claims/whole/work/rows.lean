section
-- ===== PART A: goes FIRST, ahead of the names: the tables' words, and 'selects' of the private methods out of them =====
/-- a private method of a class that the tables say can be made, by its rows of tables_1 -/
def lw_okq (q : MethodName × Nat) : Prop := (q.1.cls ≠ "java/lang/invoke/MethodHandle" ∧ q.1.cls ≠ "java/lang/invoke/VarHandle") ∧ Cond.instantiable q.1.cls q.2 ∈ tables_1 ∧ Cond.privateMethod q.1 ∈ tables_1 ∧ Cond.instanceMethod q.1 ∈ tables_1
theorem lw_p0 : lw_okq (⟨"TossRows$Page", "canStand", "(I)Z"⟩, 2) := ⟨⟨by decide +kernel, by decide +kernel⟩, List.mem_of_getElem? (i := 29) (by decide +kernel), List.mem_of_getElem? (i := 216) (by decide +kernel), List.mem_of_getElem? (i := 217) (by decide +kernel)⟩
theorem lw_p1 : lw_okq (⟨"TossRows$Page", "step", "()I"⟩, 2) := ⟨⟨by decide +kernel, by decide +kernel⟩, List.mem_of_getElem? (i := 29) (by decide +kernel), List.mem_of_getElem? (i := 228) (by decide +kernel), List.mem_of_getElem? (i := 229) (by decide +kernel)⟩
theorem lw_p2 : lw_okq (⟨"TossRows$Page", "placeOf", "(I)I"⟩, 2) := ⟨⟨by decide +kernel, by decide +kernel⟩, List.mem_of_getElem? (i := 29) (by decide +kernel), List.mem_of_getElem? (i := 345) (by decide +kernel), List.mem_of_getElem? (i := 346) (by decide +kernel)⟩
theorem lw_p3 : lw_okq (⟨"TossRows", "isPlayer", "(I)Z"⟩, 12) := ⟨⟨by decide +kernel, by decide +kernel⟩, List.mem_of_getElem? (i := 21) (by decide +kernel), List.mem_of_getElem? (i := 358) (by decide +kernel), List.mem_of_getElem? (i := 359) (by decide +kernel)⟩
theorem lw_p4 : lw_okq (⟨"TossRows", "rowsHitBy", "(I)I"⟩, 12) := ⟨⟨by decide +kernel, by decide +kernel⟩, List.mem_of_getElem? (i := 21) (by decide +kernel), List.mem_of_getElem? (i := 362) (by decide +kernel), List.mem_of_getElem? (i := 363) (by decide +kernel)⟩
theorem lw_p5 : lw_okq (⟨"TossRows", "kindAt", "(I)LTossRows$Plain;"⟩, 12) := ⟨⟨by decide +kernel, by decide +kernel⟩, List.mem_of_getElem? (i := 21) (by decide +kernel), List.mem_of_getElem? (i := 366) (by decide +kernel), List.mem_of_getElem? (i := 367) (by decide +kernel)⟩
theorem lw_p6 : lw_okq (⟨"TossRows", "isKind", "(I)Z"⟩, 12) := ⟨⟨by decide +kernel, by decide +kernel⟩, List.mem_of_getElem? (i := 21) (by decide +kernel), List.mem_of_getElem? (i := 370) (by decide +kernel), List.mem_of_getElem? (i := 371) (by decide +kernel)⟩
theorem lw_p7 : lw_okq (⟨"TossRows$Race", "run", "(II)J"⟩, 3) := ⟨⟨by decide +kernel, by decide +kernel⟩, List.mem_of_getElem? (i := 92) (by decide +kernel), List.mem_of_getElem? (i := 404) (by decide +kernel), List.mem_of_getElem? (i := 405) (by decide +kernel)⟩
theorem lw_p8 : lw_okq (⟨"TossRows$Race", "setRows", "(II)V"⟩, 3) := ⟨⟨by decide +kernel, by decide +kernel⟩, List.mem_of_getElem? (i := 92) (by decide +kernel), List.mem_of_getElem? (i := 408) (by decide +kernel), List.mem_of_getElem? (i := 409) (by decide +kernel)⟩
theorem lw_p9 : lw_okq (⟨"TossRows$Race", "setSums", "(I)V"⟩, 3) := ⟨⟨by decide +kernel, by decide +kernel⟩, List.mem_of_getElem? (i := 92) (by decide +kernel), List.mem_of_getElem? (i := 415) (by decide +kernel), List.mem_of_getElem? (i := 416) (by decide +kernel)⟩
theorem lw_p10 : lw_okq (⟨"TossRows$Race", "eliminate", "([J[JIJ)V"⟩, 3) := ⟨⟨by decide +kernel, by decide +kernel⟩, List.mem_of_getElem? (i := 92) (by decide +kernel), List.mem_of_getElem? (i := 422) (by decide +kernel), List.mem_of_getElem? (i := 423) (by decide +kernel)⟩
theorem lw_p11 : lw_okq (⟨"TossRows$Race", "sharesOf", "(I)J"⟩, 3) := ⟨⟨by decide +kernel, by decide +kernel⟩, List.mem_of_getElem? (i := 92) (by decide +kernel), List.mem_of_getElem? (i := 426) (by decide +kernel), List.mem_of_getElem? (i := 427) (by decide +kernel)⟩
theorem lw_p12 : lw_okq (⟨"TossRows", "rowsLeft", "(I)I"⟩, 12) := ⟨⟨by decide +kernel, by decide +kernel⟩, List.mem_of_getElem? (i := 21) (by decide +kernel), List.mem_of_getElem? (i := 437) (by decide +kernel), List.mem_of_getElem? (i := 438) (by decide +kernel)⟩
theorem lw_p13 : lw_okq (⟨"TossRows", "betsThatHit", "(LTossRows$Plain;I)I"⟩, 12) := ⟨⟨by decide +kernel, by decide +kernel⟩, List.mem_of_getElem? (i := 21) (by decide +kernel), List.mem_of_getElem? (i := 441) (by decide +kernel), List.mem_of_getElem? (i := 442) (by decide +kernel)⟩
theorem lw_p14 : lw_okq (⟨"TossRows", "nextTry", "(I)I"⟩, 12) := ⟨⟨by decide +kernel, by decide +kernel⟩, List.mem_of_getElem? (i := 21) (by decide +kernel), List.mem_of_getElem? (i := 446) (by decide +kernel), List.mem_of_getElem? (i := 447) (by decide +kernel)⟩
theorem lw_p15 : lw_okq (⟨"TossRows", "isRow", "(I)Z"⟩, 12) := ⟨⟨by decide +kernel, by decide +kernel⟩, List.mem_of_getElem? (i := 21) (by decide +kernel), List.mem_of_getElem? (i := 462) (by decide +kernel), List.mem_of_getElem? (i := 463) (by decide +kernel)⟩
def lw_privs_1 : List (MethodName × Nat) := [(⟨"TossRows$Page", "canStand", "(I)Z"⟩, 2), (⟨"TossRows$Page", "step", "()I"⟩, 2), (⟨"TossRows$Page", "placeOf", "(I)I"⟩, 2), (⟨"TossRows", "isPlayer", "(I)Z"⟩, 12), (⟨"TossRows", "rowsHitBy", "(I)I"⟩, 12), (⟨"TossRows", "kindAt", "(I)LTossRows$Plain;"⟩, 12), (⟨"TossRows", "isKind", "(I)Z"⟩, 12), (⟨"TossRows$Race", "run", "(II)J"⟩, 3), (⟨"TossRows$Race", "setRows", "(II)V"⟩, 3), (⟨"TossRows$Race", "setSums", "(I)V"⟩, 3), (⟨"TossRows$Race", "eliminate", "([J[JIJ)V"⟩, 3), (⟨"TossRows$Race", "sharesOf", "(I)J"⟩, 3), (⟨"TossRows", "rowsLeft", "(I)I"⟩, 12), (⟨"TossRows", "betsThatHit", "(LTossRows$Plain;I)I"⟩, 12), (⟨"TossRows", "nextTry", "(I)I"⟩, 12), (⟨"TossRows", "isRow", "(I)Z"⟩, 12)]
theorem lw_r1 : ∀ q ∈ lw_privs_1, lw_okq q := List.forall_mem_cons.mpr ⟨lw_p0, List.forall_mem_cons.mpr ⟨lw_p1, List.forall_mem_cons.mpr ⟨lw_p2, List.forall_mem_cons.mpr ⟨lw_p3, List.forall_mem_cons.mpr ⟨lw_p4, List.forall_mem_cons.mpr ⟨lw_p5, List.forall_mem_cons.mpr ⟨lw_p6, List.forall_mem_cons.mpr ⟨lw_p7, List.forall_mem_cons.mpr ⟨lw_p8, List.forall_mem_cons.mpr ⟨lw_p9, List.forall_mem_cons.mpr ⟨lw_p10, List.forall_mem_cons.mpr ⟨lw_p11, List.forall_mem_cons.mpr ⟨lw_p12, List.forall_mem_cons.mpr ⟨lw_p13, List.forall_mem_cons.mpr ⟨lw_p14, List.forall_mem_cons.mpr ⟨lw_p15, fun _ h => absurd h List.not_mem_nil⟩⟩⟩⟩⟩⟩⟩⟩⟩⟩⟩⟩⟩⟩⟩⟩
theorem lw_p16 : lw_okq (⟨"TossRows", "trackBehind", "(II)I"⟩, 12) := ⟨⟨by decide +kernel, by decide +kernel⟩, List.mem_of_getElem? (i := 21) (by decide +kernel), List.mem_of_getElem? (i := 470) (by decide +kernel), List.mem_of_getElem? (i := 471) (by decide +kernel)⟩
theorem lw_p17 : lw_okq (⟨"TossRows", "hittersAt", "(I)I"⟩, 12) := ⟨⟨by decide +kernel, by decide +kernel⟩, List.mem_of_getElem? (i := 21) (by decide +kernel), List.mem_of_getElem? (i := 474) (by decide +kernel), List.mem_of_getElem? (i := 475) (by decide +kernel)⟩
theorem lw_p18 : lw_okq (⟨"TossRows", "tailOf", "(I)I"⟩, 12) := ⟨⟨by decide +kernel, by decide +kernel⟩, List.mem_of_getElem? (i := 21) (by decide +kernel), List.mem_of_getElem? (i := 478) (by decide +kernel), List.mem_of_getElem? (i := 479) (by decide +kernel)⟩
theorem lw_p19 : lw_okq (⟨"TossRows", "bestAgainst", "(I)I"⟩, 12) := ⟨⟨by decide +kernel, by decide +kernel⟩, List.mem_of_getElem? (i := 21) (by decide +kernel), List.mem_of_getElem? (i := 511) (by decide +kernel), List.mem_of_getElem? (i := 512) (by decide +kernel)⟩
theorem lw_p20 : lw_okq (⟨"TossRows", "bestToOpen", "()I"⟩, 12) := ⟨⟨by decide +kernel, by decide +kernel⟩, List.mem_of_getElem? (i := 21) (by decide +kernel), List.mem_of_getElem? (i := 519) (by decide +kernel), List.mem_of_getElem? (i := 520) (by decide +kernel)⟩
theorem lw_p21 : lw_okq (⟨"TossRows", "dangerOf", "(I)I"⟩, 12) := ⟨⟨by decide +kernel, by decide +kernel⟩, List.mem_of_getElem? (i := 21) (by decide +kernel), List.mem_of_getElem? (i := 524) (by decide +kernel), List.mem_of_getElem? (i := 525) (by decide +kernel)⟩
theorem lw_p22 : lw_okq (⟨"TossRows", "whoBeatsWhom", "()I"⟩, 12) := ⟨⟨by decide +kernel, by decide +kernel⟩, List.mem_of_getElem? (i := 21) (by decide +kernel), List.mem_of_getElem? (i := 532) (by decide +kernel), List.mem_of_getElem? (i := 533) (by decide +kernel)⟩
theorem lw_p23 : lw_okq (⟨"TossRows", "waysToWin", "(II)I"⟩, 12) := ⟨⟨by decide +kernel, by decide +kernel⟩, List.mem_of_getElem? (i := 21) (by decide +kernel), List.mem_of_getElem? (i := 549) (by decide +kernel), List.mem_of_getElem? (i := 550) (by decide +kernel)⟩
theorem lw_p24 : lw_okq (⟨"TossRows", "winsByToss", "(II)I"⟩, 12) := ⟨⟨by decide +kernel, by decide +kernel⟩, List.mem_of_getElem? (i := 21) (by decide +kernel), List.mem_of_getElem? (i := 554) (by decide +kernel), List.mem_of_getElem? (i := 555) (by decide +kernel)⟩
theorem lw_p25 : lw_okq (⟨"TossRows", "mostWins", "()I"⟩, 12) := ⟨⟨by decide +kernel, by decide +kernel⟩, List.mem_of_getElem? (i := 21) (by decide +kernel), List.mem_of_getElem? (i := 584) (by decide +kernel), List.mem_of_getElem? (i := 585) (by decide +kernel)⟩
theorem lw_p26 : lw_okq (⟨"TossRowsModel", "read", "()I"⟩, 37) := ⟨⟨by decide +kernel, by decide +kernel⟩, List.mem_of_getElem? (i := 625) (by decide +kernel), List.mem_of_getElem? (i := 758) (by decide +kernel), List.mem_of_getElem? (i := 759) (by decide +kernel)⟩
theorem lw_p27 : lw_okq (⟨"TossRowsModel", "at", "(I)I"⟩, 37) := ⟨⟨by decide +kernel, by decide +kernel⟩, List.mem_of_getElem? (i := 625) (by decide +kernel), List.mem_of_getElem? (i := 762) (by decide +kernel), List.mem_of_getElem? (i := 763) (by decide +kernel)⟩
theorem lw_p28 : lw_okq (⟨"TossRowsModel", "readPlayer", "(I)I"⟩, 37) := ⟨⟨by decide +kernel, by decide +kernel⟩, List.mem_of_getElem? (i := 625) (by decide +kernel), List.mem_of_getElem? (i := 766) (by decide +kernel), List.mem_of_getElem? (i := 767) (by decide +kernel)⟩
theorem lw_p29 : lw_okq (⟨"TossRowsModel", "rowAt", "(I)I"⟩, 37) := ⟨⟨by decide +kernel, by decide +kernel⟩, List.mem_of_getElem? (i := 625) (by decide +kernel), List.mem_of_getElem? (i := 777) (by decide +kernel), List.mem_of_getElem? (i := 778) (by decide +kernel)⟩
theorem lw_p30 : lw_okq (⟨"TossRowsModel", "isPlayer", "(I)Z"⟩, 37) := ⟨⟨by decide +kernel, by decide +kernel⟩, List.mem_of_getElem? (i := 625) (by decide +kernel), List.mem_of_getElem? (i := 785) (by decide +kernel), List.mem_of_getElem? (i := 786) (by decide +kernel)⟩
theorem lw_p31 : lw_okq (⟨"TossRowsModel", "playerNow", "(II)I"⟩, 37) := ⟨⟨by decide +kernel, by decide +kernel⟩, List.mem_of_getElem? (i := 625) (by decide +kernel), List.mem_of_getElem? (i := 789) (by decide +kernel), List.mem_of_getElem? (i := 790) (by decide +kernel)⟩
def lw_privs_2 : List (MethodName × Nat) := [(⟨"TossRows", "trackBehind", "(II)I"⟩, 12), (⟨"TossRows", "hittersAt", "(I)I"⟩, 12), (⟨"TossRows", "tailOf", "(I)I"⟩, 12), (⟨"TossRows", "bestAgainst", "(I)I"⟩, 12), (⟨"TossRows", "bestToOpen", "()I"⟩, 12), (⟨"TossRows", "dangerOf", "(I)I"⟩, 12), (⟨"TossRows", "whoBeatsWhom", "()I"⟩, 12), (⟨"TossRows", "waysToWin", "(II)I"⟩, 12), (⟨"TossRows", "winsByToss", "(II)I"⟩, 12), (⟨"TossRows", "mostWins", "()I"⟩, 12), (⟨"TossRowsModel", "read", "()I"⟩, 37), (⟨"TossRowsModel", "at", "(I)I"⟩, 37), (⟨"TossRowsModel", "readPlayer", "(I)I"⟩, 37), (⟨"TossRowsModel", "rowAt", "(I)I"⟩, 37), (⟨"TossRowsModel", "isPlayer", "(I)Z"⟩, 37), (⟨"TossRowsModel", "playerNow", "(II)I"⟩, 37)]
theorem lw_r2 : ∀ q ∈ lw_privs_2, lw_okq q := List.forall_mem_cons.mpr ⟨lw_p16, List.forall_mem_cons.mpr ⟨lw_p17, List.forall_mem_cons.mpr ⟨lw_p18, List.forall_mem_cons.mpr ⟨lw_p19, List.forall_mem_cons.mpr ⟨lw_p20, List.forall_mem_cons.mpr ⟨lw_p21, List.forall_mem_cons.mpr ⟨lw_p22, List.forall_mem_cons.mpr ⟨lw_p23, List.forall_mem_cons.mpr ⟨lw_p24, List.forall_mem_cons.mpr ⟨lw_p25, List.forall_mem_cons.mpr ⟨lw_p26, List.forall_mem_cons.mpr ⟨lw_p27, List.forall_mem_cons.mpr ⟨lw_p28, List.forall_mem_cons.mpr ⟨lw_p29, List.forall_mem_cons.mpr ⟨lw_p30, List.forall_mem_cons.mpr ⟨lw_p31, fun _ h => absurd h List.not_mem_nil⟩⟩⟩⟩⟩⟩⟩⟩⟩⟩⟩⟩⟩⟩⟩⟩
theorem lw_p32 : lw_okq (⟨"TossRowsModel", "hitsOf", "(I)I"⟩, 37) := ⟨⟨by decide +kernel, by decide +kernel⟩, List.mem_of_getElem? (i := 625) (by decide +kernel), List.mem_of_getElem? (i := 793) (by decide +kernel), List.mem_of_getElem? (i := 794) (by decide +kernel)⟩
theorem lw_p33 : lw_okq (⟨"TossRowsModel", "hitsBy", "(II)I"⟩, 37) := ⟨⟨by decide +kernel, by decide +kernel⟩, List.mem_of_getElem? (i := 625) (by decide +kernel), List.mem_of_getElem? (i := 797) (by decide +kernel), List.mem_of_getElem? (i := 798) (by decide +kernel)⟩
theorem lw_p34 : lw_okq (⟨"TossRowsModel", "rows", "()I"⟩, 37) := ⟨⟨by decide +kernel, by decide +kernel⟩, List.mem_of_getElem? (i := 625) (by decide +kernel), List.mem_of_getElem? (i := 801) (by decide +kernel), List.mem_of_getElem? (i := 802) (by decide +kernel)⟩
theorem lw_p35 : lw_okq (⟨"TossRowsModel", "turned", "(I)I"⟩, 37) := ⟨⟨by decide +kernel, by decide +kernel⟩, List.mem_of_getElem? (i := 625) (by decide +kernel), List.mem_of_getElem? (i := 805) (by decide +kernel), List.mem_of_getElem? (i := 806) (by decide +kernel)⟩
theorem lw_p36 : lw_okq (⟨"TossRowsModel", "waitOf", "(I)I"⟩, 37) := ⟨⟨by decide +kernel, by decide +kernel⟩, List.mem_of_getElem? (i := 625) (by decide +kernel), List.mem_of_getElem? (i := 809) (by decide +kernel), List.mem_of_getElem? (i := 810) (by decide +kernel)⟩
theorem lw_p37 : lw_okq (⟨"TossRowsModel", "unknowns", "()I"⟩, 37) := ⟨⟨by decide +kernel, by decide +kernel⟩, List.mem_of_getElem? (i := 625) (by decide +kernel), List.mem_of_getElem? (i := 813) (by decide +kernel), List.mem_of_getElem? (i := 814) (by decide +kernel)⟩
theorem lw_p38 : lw_okq (⟨"TossRowsModel", "clear", "()V"⟩, 37) := ⟨⟨by decide +kernel, by decide +kernel⟩, List.mem_of_getElem? (i := 625) (by decide +kernel), List.mem_of_getElem? (i := 817) (by decide +kernel), List.mem_of_getElem? (i := 818) (by decide +kernel)⟩
theorem lw_p39 : lw_okq (⟨"TossRowsModel", "solve", "()V"⟩, 37) := ⟨⟨by decide +kernel, by decide +kernel⟩, List.mem_of_getElem? (i := 625) (by decide +kernel), List.mem_of_getElem? (i := 825) (by decide +kernel), List.mem_of_getElem? (i := 826) (by decide +kernel)⟩
theorem lw_p40 : lw_okq (⟨"TossRowsModel", "exchange", "(II)V"⟩, 37) := ⟨⟨by decide +kernel, by decide +kernel⟩, List.mem_of_getElem? (i := 625) (by decide +kernel), List.mem_of_getElem? (i := 829) (by decide +kernel), List.mem_of_getElem? (i := 830) (by decide +kernel)⟩
theorem lw_p41 : lw_okq (⟨"TossRowsModel", "eliminate", "(IJ)V"⟩, 37) := ⟨⟨by decide +kernel, by decide +kernel⟩, List.mem_of_getElem? (i := 625) (by decide +kernel), List.mem_of_getElem? (i := 833) (by decide +kernel), List.mem_of_getElem? (i := 834) (by decide +kernel)⟩
theorem lw_p42 : lw_okq (⟨"TossRowsModel", "middle", "(J)J"⟩, 37) := ⟨⟨by decide +kernel, by decide +kernel⟩, List.mem_of_getElem? (i := 625) (by decide +kernel), List.mem_of_getElem? (i := 838) (by decide +kernel), List.mem_of_getElem? (i := 839) (by decide +kernel)⟩
theorem lw_p43 : lw_okq (⟨"TossRowsModel", "rowsOf", "(I)I"⟩, 37) := ⟨⟨by decide +kernel, by decide +kernel⟩, List.mem_of_getElem? (i := 625) (by decide +kernel), List.mem_of_getElem? (i := 845) (by decide +kernel), List.mem_of_getElem? (i := 846) (by decide +kernel)⟩
theorem lw_p44 : lw_okq (⟨"TossRowsModel", "tryFor", "(I)I"⟩, 37) := ⟨⟨by decide +kernel, by decide +kernel⟩, List.mem_of_getElem? (i := 625) (by decide +kernel), List.mem_of_getElem? (i := 849) (by decide +kernel), List.mem_of_getElem? (i := 850) (by decide +kernel)⟩
theorem lw_p45 : lw_okq (⟨"TossRowsModel", "isRow", "(I)Z"⟩, 37) := ⟨⟨by decide +kernel, by decide +kernel⟩, List.mem_of_getElem? (i := 625) (by decide +kernel), List.mem_of_getElem? (i := 862) (by decide +kernel), List.mem_of_getElem? (i := 863) (by decide +kernel)⟩
theorem lw_p46 : lw_okq (⟨"TossRowsModel", "whoHits", "(II)I"⟩, 37) := ⟨⟨by decide +kernel, by decide +kernel⟩, List.mem_of_getElem? (i := 625) (by decide +kernel), List.mem_of_getElem? (i := 870) (by decide +kernel), List.mem_of_getElem? (i := 871) (by decide +kernel)⟩
theorem lw_p47 : lw_okq (⟨"TossRowsModel", "duelNow", "(II)I"⟩, 37) := ⟨⟨by decide +kernel, by decide +kernel⟩, List.mem_of_getElem? (i := 625) (by decide +kernel), List.mem_of_getElem? (i := 890) (by decide +kernel), List.mem_of_getElem? (i := 891) (by decide +kernel)⟩
def lw_privs_3 : List (MethodName × Nat) := [(⟨"TossRowsModel", "hitsOf", "(I)I"⟩, 37), (⟨"TossRowsModel", "hitsBy", "(II)I"⟩, 37), (⟨"TossRowsModel", "rows", "()I"⟩, 37), (⟨"TossRowsModel", "turned", "(I)I"⟩, 37), (⟨"TossRowsModel", "waitOf", "(I)I"⟩, 37), (⟨"TossRowsModel", "unknowns", "()I"⟩, 37), (⟨"TossRowsModel", "clear", "()V"⟩, 37), (⟨"TossRowsModel", "solve", "()V"⟩, 37), (⟨"TossRowsModel", "exchange", "(II)V"⟩, 37), (⟨"TossRowsModel", "eliminate", "(IJ)V"⟩, 37), (⟨"TossRowsModel", "middle", "(J)J"⟩, 37), (⟨"TossRowsModel", "rowsOf", "(I)I"⟩, 37), (⟨"TossRowsModel", "tryFor", "(I)I"⟩, 37), (⟨"TossRowsModel", "isRow", "(I)Z"⟩, 37), (⟨"TossRowsModel", "whoHits", "(II)I"⟩, 37), (⟨"TossRowsModel", "duelNow", "(II)I"⟩, 37)]
theorem lw_r3 : ∀ q ∈ lw_privs_3, lw_okq q := List.forall_mem_cons.mpr ⟨lw_p32, List.forall_mem_cons.mpr ⟨lw_p33, List.forall_mem_cons.mpr ⟨lw_p34, List.forall_mem_cons.mpr ⟨lw_p35, List.forall_mem_cons.mpr ⟨lw_p36, List.forall_mem_cons.mpr ⟨lw_p37, List.forall_mem_cons.mpr ⟨lw_p38, List.forall_mem_cons.mpr ⟨lw_p39, List.forall_mem_cons.mpr ⟨lw_p40, List.forall_mem_cons.mpr ⟨lw_p41, List.forall_mem_cons.mpr ⟨lw_p42, List.forall_mem_cons.mpr ⟨lw_p43, List.forall_mem_cons.mpr ⟨lw_p44, List.forall_mem_cons.mpr ⟨lw_p45, List.forall_mem_cons.mpr ⟨lw_p46, List.forall_mem_cons.mpr ⟨lw_p47, fun _ h => absurd h List.not_mem_nil⟩⟩⟩⟩⟩⟩⟩⟩⟩⟩⟩⟩⟩⟩⟩⟩
theorem lw_p48 : lw_okq (⟨"TossRowsModel", "duelOf", "(II)I"⟩, 37) := ⟨⟨by decide +kernel, by decide +kernel⟩, List.mem_of_getElem? (i := 625) (by decide +kernel), List.mem_of_getElem? (i := 894) (by decide +kernel), List.mem_of_getElem? (i := 895) (by decide +kernel)⟩
theorem lw_p49 : lw_okq (⟨"TossRowsModel", "answerNow", "(II)I"⟩, 37) := ⟨⟨by decide +kernel, by decide +kernel⟩, List.mem_of_getElem? (i := 625) (by decide +kernel), List.mem_of_getElem? (i := 903) (by decide +kernel), List.mem_of_getElem? (i := 904) (by decide +kernel)⟩
theorem lw_p50 : lw_okq (⟨"TossRowsModel", "openNow", "(I)I"⟩, 37) := ⟨⟨by decide +kernel, by decide +kernel⟩, List.mem_of_getElem? (i := 625) (by decide +kernel), List.mem_of_getElem? (i := 911) (by decide +kernel), List.mem_of_getElem? (i := 912) (by decide +kernel)⟩
theorem lw_p51 : lw_okq (⟨"TossRowsModel", "mostAgainst", "(I)I"⟩, 37) := ⟨⟨by decide +kernel, by decide +kernel⟩, List.mem_of_getElem? (i := 625) (by decide +kernel), List.mem_of_getElem? (i := 915) (by decide +kernel), List.mem_of_getElem? (i := 916) (by decide +kernel)⟩
theorem lw_p52 : lw_okq (⟨"TossRowsModel", "ringNow", "()I"⟩, 37) := ⟨⟨by decide +kernel, by decide +kernel⟩, List.mem_of_getElem? (i := 625) (by decide +kernel), List.mem_of_getElem? (i := 923) (by decide +kernel), List.mem_of_getElem? (i := 924) (by decide +kernel)⟩
theorem lw_p53 : lw_okq (⟨"TossRowsModel", "layBeats", "()V"⟩, 37) := ⟨⟨by decide +kernel, by decide +kernel⟩, List.mem_of_getElem? (i := 625) (by decide +kernel), List.mem_of_getElem? (i := 927) (by decide +kernel), List.mem_of_getElem? (i := 928) (by decide +kernel)⟩
theorem lw_p54 : lw_okq (⟨"TossRowsModel", "isRound", "(III)Z"⟩, 37) := ⟨⟨by decide +kernel, by decide +kernel⟩, List.mem_of_getElem? (i := 625) (by decide +kernel), List.mem_of_getElem? (i := 931) (by decide +kernel), List.mem_of_getElem? (i := 932) (by decide +kernel)⟩
theorem lw_p55 : lw_okq (⟨"TossRowsModel", "isRoundOfFour", "(IIII)Z"⟩, 37) := ⟨⟨by decide +kernel, by decide +kernel⟩, List.mem_of_getElem? (i := 625) (by decide +kernel), List.mem_of_getElem? (i := 935) (by decide +kernel), List.mem_of_getElem? (i := 936) (by decide +kernel)⟩
theorem lw_p56 : lw_okq (⟨"TossRowsModel", "oddsNow", "(III)I"⟩, 37) := ⟨⟨by decide +kernel, by decide +kernel⟩, List.mem_of_getElem? (i := 625) (by decide +kernel), List.mem_of_getElem? (i := 943) (by decide +kernel), List.mem_of_getElem? (i := 944) (by decide +kernel)⟩
theorem lw_p57 : lw_okq (⟨"TossRowsModel", "stateNow", "()I"⟩, 37) := ⟨⟨by decide +kernel, by decide +kernel⟩, List.mem_of_getElem? (i := 625) (by decide +kernel), List.mem_of_getElem? (i := 947) (by decide +kernel), List.mem_of_getElem? (i := 948) (by decide +kernel)⟩
theorem lw_p58 : lw_okq (⟨"TossRowsModel", "tossWays", "(II)I"⟩, 37) := ⟨⟨by decide +kernel, by decide +kernel⟩, List.mem_of_getElem? (i := 625) (by decide +kernel), List.mem_of_getElem? (i := 951) (by decide +kernel), List.mem_of_getElem? (i := 952) (by decide +kernel)⟩
theorem lw_p59 : lw_okq (⟨"TossRowsModel", "behind", "(II)I"⟩, 37) := ⟨⟨by decide +kernel, by decide +kernel⟩, List.mem_of_getElem? (i := 625) (by decide +kernel), List.mem_of_getElem? (i := 955) (by decide +kernel), List.mem_of_getElem? (i := 956) (by decide +kernel)⟩
theorem lw_p60 : lw_okq (⟨"TossRowsModel", "gamesNow", "(III)I"⟩, 37) := ⟨⟨by decide +kernel, by decide +kernel⟩, List.mem_of_getElem? (i := 625) (by decide +kernel), List.mem_of_getElem? (i := 974) (by decide +kernel), List.mem_of_getElem? (i := 975) (by decide +kernel)⟩
theorem lw_p61 : lw_okq (⟨"TossRowsModel", "draw", "(I)I"⟩, 37) := ⟨⟨by decide +kernel, by decide +kernel⟩, List.mem_of_getElem? (i := 625) (by decide +kernel), List.mem_of_getElem? (i := 978) (by decide +kernel), List.mem_of_getElem? (i := 979) (by decide +kernel)⟩
theorem lw_p62 : lw_okq (⟨"TossRowsModel", "mostWon", "()I"⟩, 37) := ⟨⟨by decide +kernel, by decide +kernel⟩, List.mem_of_getElem? (i := 625) (by decide +kernel), List.mem_of_getElem? (i := 986) (by decide +kernel), List.mem_of_getElem? (i := 987) (by decide +kernel)⟩
theorem lw_p63 : lw_okq (⟨"TossRowsModel", "howMany", "(I)I"⟩, 37) := ⟨⟨by decide +kernel, by decide +kernel⟩, List.mem_of_getElem? (i := 625) (by decide +kernel), List.mem_of_getElem? (i := 1002) (by decide +kernel), List.mem_of_getElem? (i := 1003) (by decide +kernel)⟩
def lw_privs_4 : List (MethodName × Nat) := [(⟨"TossRowsModel", "duelOf", "(II)I"⟩, 37), (⟨"TossRowsModel", "answerNow", "(II)I"⟩, 37), (⟨"TossRowsModel", "openNow", "(I)I"⟩, 37), (⟨"TossRowsModel", "mostAgainst", "(I)I"⟩, 37), (⟨"TossRowsModel", "ringNow", "()I"⟩, 37), (⟨"TossRowsModel", "layBeats", "()V"⟩, 37), (⟨"TossRowsModel", "isRound", "(III)Z"⟩, 37), (⟨"TossRowsModel", "isRoundOfFour", "(IIII)Z"⟩, 37), (⟨"TossRowsModel", "oddsNow", "(III)I"⟩, 37), (⟨"TossRowsModel", "stateNow", "()I"⟩, 37), (⟨"TossRowsModel", "tossWays", "(II)I"⟩, 37), (⟨"TossRowsModel", "behind", "(II)I"⟩, 37), (⟨"TossRowsModel", "gamesNow", "(III)I"⟩, 37), (⟨"TossRowsModel", "draw", "(I)I"⟩, 37), (⟨"TossRowsModel", "mostWon", "()I"⟩, 37), (⟨"TossRowsModel", "howMany", "(I)I"⟩, 37)]
theorem lw_r4 : ∀ q ∈ lw_privs_4, lw_okq q := List.forall_mem_cons.mpr ⟨lw_p48, List.forall_mem_cons.mpr ⟨lw_p49, List.forall_mem_cons.mpr ⟨lw_p50, List.forall_mem_cons.mpr ⟨lw_p51, List.forall_mem_cons.mpr ⟨lw_p52, List.forall_mem_cons.mpr ⟨lw_p53, List.forall_mem_cons.mpr ⟨lw_p54, List.forall_mem_cons.mpr ⟨lw_p55, List.forall_mem_cons.mpr ⟨lw_p56, List.forall_mem_cons.mpr ⟨lw_p57, List.forall_mem_cons.mpr ⟨lw_p58, List.forall_mem_cons.mpr ⟨lw_p59, List.forall_mem_cons.mpr ⟨lw_p60, List.forall_mem_cons.mpr ⟨lw_p61, List.forall_mem_cons.mpr ⟨lw_p62, List.forall_mem_cons.mpr ⟨lw_p63, fun _ h => absurd h List.not_mem_nil⟩⟩⟩⟩⟩⟩⟩⟩⟩⟩⟩⟩⟩⟩⟩⟩
theorem lw_p64 : lw_okq (⟨"TossRowsModel", "tailNow", "()I"⟩, 37) := ⟨⟨by decide +kernel, by decide +kernel⟩, List.mem_of_getElem? (i := 625) (by decide +kernel), List.mem_of_getElem? (i := 1006) (by decide +kernel), List.mem_of_getElem? (i := 1007) (by decide +kernel)⟩
theorem lw_p65 : lw_okq (⟨"TossRowsModel", "wonByAll", "()I"⟩, 37) := ⟨⟨by decide +kernel, by decide +kernel⟩, List.mem_of_getElem? (i := 625) (by decide +kernel), List.mem_of_getElem? (i := 1010) (by decide +kernel), List.mem_of_getElem? (i := 1011) (by decide +kernel)⟩
theorem lw_p66 : lw_okq (⟨"TossRowsModel", "mixPlayer", "(I)V"⟩, 37) := ⟨⟨by decide +kernel, by decide +kernel⟩, List.mem_of_getElem? (i := 625) (by decide +kernel), List.mem_of_getElem? (i := 1019) (by decide +kernel), List.mem_of_getElem? (i := 1020) (by decide +kernel)⟩
theorem lw_p67 : lw_okq (⟨"TossRowsModel", "mix", "(J)V"⟩, 37) := ⟨⟨by decide +kernel, by decide +kernel⟩, List.mem_of_getElem? (i := 625) (by decide +kernel), List.mem_of_getElem? (i := 1023) (by decide +kernel), List.mem_of_getElem? (i := 1024) (by decide +kernel)⟩
def lw_privs_5 : List (MethodName × Nat) := [(⟨"TossRowsModel", "tailNow", "()I"⟩, 37), (⟨"TossRowsModel", "wonByAll", "()I"⟩, 37), (⟨"TossRowsModel", "mixPlayer", "(I)V"⟩, 37), (⟨"TossRowsModel", "mix", "(J)V"⟩, 37)]
theorem lw_r5 : ∀ q ∈ lw_privs_5, lw_okq q := List.forall_mem_cons.mpr ⟨lw_p64, List.forall_mem_cons.mpr ⟨lw_p65, List.forall_mem_cons.mpr ⟨lw_p66, List.forall_mem_cons.mpr ⟨lw_p67, fun _ h => absurd h List.not_mem_nil⟩⟩⟩⟩
def lw_privs : List (MethodName × Nat) := lw_privs_1 ++ (lw_privs_2 ++ (lw_privs_3 ++ (lw_privs_4 ++ (lw_privs_5))))
def lw_tbl : List Cond := k2_sels lw_privs ++ tables_1
theorem lw_privs_ok : ∀ q ∈ lw_privs, lw_okq q := by
  show ∀ q ∈ lw_privs_1 ++ (lw_privs_2 ++ (lw_privs_3 ++ (lw_privs_4 ++ (lw_privs_5)))), lw_okq q
  exact List.forall_mem_append.mpr ⟨lw_r1, List.forall_mem_append.mpr ⟨lw_r2, List.forall_mem_append.mpr ⟨lw_r3, List.forall_mem_append.mpr ⟨lw_r4, lw_r5⟩⟩⟩⟩
end
section
def va_AOA (ty : FieldType) (U : State) : Prop := (Cond.arrayOver (.array ty)).before #[] U = true
theorem va_AOA.use {ty : FieldType} {A : Array Value} {U : State} (h : va_AOA ty U) : (Cond.arrayOver (.array ty)).before A U = true := h
/-! ===== BEGIN new T[n][m]: the outer array a place, the inner ones among the pooled ===== -/
/-- f, but v at every address of l -/
def vr_up {α : Type} (f : Nat → α) (l : List Nat) (v : α) : Nat → α := fun a => if a ∈ l then v else f a
theorem vr_up_in {α : Type} {f : Nat → α} {l : List Nat} {v : α} {a : Nat} (h : a ∈ l) : vr_up f l v a = v := if_pos h
theorem vr_up_ne {α : Type} {f : Nat → α} {l : List Nat} {v : α} {a : Nat} (h : a ∉ l) : vr_up f l v a = f a := if_neg h
theorem vr_rows {L l : List Nat} {f : Nat → va_E} {e : va_E} (h : ∀ a, a ∈ l → a ∉ L) : va_pl L f ++ l.map (fun a => (a, e)) = va_pl (L ++ l) (vr_up f l e) := by
  unfold va_pl
  rw [List.map_append]
  congr 1
  · apply List.map_congr_left
    intro a ha
    rw [vr_up_ne (fun q => h a q ha)]
  · apply List.map_congr_left
    intro a ha
    rw [vr_up_in ha]
theorem vr_lay {X rows : va_W} {x : Nat × va_E} {pl : va_W} {D : va_G} {cl : List vw_C} {H : Heap} (hP : va_P D cl (((X ++ pl) ++ [x]) ++ rows) H) : va_P D cl ((X ++ [x]) ++ (pl ++ rows)) H := by
  rw [List.append_assoc (X ++ pl)] at hP
  have h := va_P.swap hP
  rw [← List.append_assoc X] at h
  have h2 := va_P.swap h
  rw [List.append_assoc (X ++ [x])] at h2
  exact h2
theorem vr_layD {X rows : va_W} {x : Nat × va_E} {pl : va_W} {A : Nat → Prop} (hD : va_D A (((X ++ pl) ++ [x]) ++ rows)) : va_D A ((X ++ [x]) ++ (pl ++ rows)) := by
  rw [List.append_assoc (X ++ pl)] at hD
  have h := va_D.swap hD
  rw [← List.append_assoc X] at h
  have h2 := va_D.swap h
  rw [List.append_assoc (X ++ [x])] at h2
  exact h2
theorem vr_outer (c : ClassId) (N h0 : Nat) : ∀ i : Nat, Jvm.Free.Multi.outerC c N h0 i = arrV c N (fun j => va_rf (if j < i then some (h0 + 1 + j) else none))
  | 0 => by
    show ({ cls := c, slots := Array.replicate N .null, vm := .none } : Cell) = _
    rw [arrV_new]
    refine congrArg (arrV c N) (funext fun j => ?_)
    simp [va_rf]
  | i + 1 => by
    show (Jvm.Free.Multi.outerC c N h0 i).setSlot i (.ref (h0 + 1 + i)) = _
    rw [vr_outer c N h0 i, arrV_store]
    refine congrArg (arrV c N) (funext fun j => ?_)
    by_cases e : j = i
    · subst e
      simp [updV, va_rf]
    · by_cases h : j < i
      · simp [updV, e, h, Nat.lt_succ_of_lt h]
      · simp [updV, e, h, show ¬ j < i + 1 by omega]
section VGM
variable {p : Program} {l : Launch} {e : Env} {R : Room} {s : State} {m : MethodId} {args : Array Value} {below : List Frame} {meth : Method} {c : Code} {H : Heap} {locs : List Loc} {cells slots : Nat} {Q : State → Prop}
variable {cc : ByteArray} {pc : Nat} {ls : Array Slot} {rest : List Value} {D : va_G} {cl : List vw_C} {A : Nat → Prop} {a : Nat} {tys : List (ClassId × FieldType)} {ws : va_W} {H0 : Heap}
theorem va_mna {X : va_W} {L : List Nat} {f : Nat → va_E} {cc : ByteArray} (hexec : p.tables.exec = Jvm.exec) (hb : c.code = cc) {own : String} {index : Nat} {ty : FieldType} {cy : ClassId} (hown : s.vm.findClass own = some m.cls) (hclink : (Cond.classLink own index ("[" ++ (FieldType.array ty).toString)).before args s = true) (hover : va_AOA ty s) (harr : (Cond.arrayClass ty).before args s = true) (hcy : s.vm.findClass (FieldType.array ty).toString = some cy)
    (hK : va_K D cl tys s) (hP : va_P D cl (X ++ va_pl L f) H) (hD : va_D A (X ++ va_pl L f)) (hS : va_S A H0 H locs) (hA : ∀ q, H0.size ≤ q → A q) {n k : Int32} {N' K' : Nat} {z : vp_A} (hn : ¬ n < 0) (hk : ¬ k < 0) (hN : n.toNatClampNeg = N') (hM : k.toNatClampNeg = K')
    (hb1 : N' * 4 ≤ 536870912) (hb2 : K' * componentBytes ty ≤ 536870912) (hb3 : K' ≤ 536870912) (hdf : fits ty (defaultValue ty) = true) (hdd : (defaultValue ty).isDefault = true) (hcells : cells + (1 + N') ≤ R.cells) (hslots : slots + (N' + N' * K') ≤ R.slots) (hz : ∀ c : ClassId, Jvm.Free.Multi.innerC c K' (defaultValue ty) = vp_cell c z) (hdg : decode cc pc = .ok (.multianewarray index 2, 4))
    (kk : ∀ (q : Nat) (r : Nat → Nat) (cA : ClassId) (H1 : Heap), (∀ i j : Nat, i < N' → j < N' → r i = r j → i = j) → (∀ i : Nat, i < N' → r i ∉ L) → va_K D cl (tys ++ [(cA, .array ty)]) s →
      va_P D cl ((X ++ [(q, .inl (cA, N', .inr (.inr (.inr (.inr (fun i => if i < N' then some (r i) else none))))))]) ++ va_pl (L ++ (List.range N').map r) (vr_up f ((List.range N').map r) (.inl (cy, z)))) H1 → va_D A ((X ++ [(q, .inl (cA, N', .inr (.inr (.inr (.inr (fun i => if i < N' then some (r i) else none))))))]) ++ va_pl (L ++ (List.range N').map r) (vr_up f ((List.range N').map r) (.inl (cy, z)))) → va_S A H0 H1 locs →
      W p l e R s m args below meth c H1 locs (cells + 1 + N') (slots + N' + N' * K') Q (F0 m (pc + 4) ls (.ref q :: rest))) : W p l e R s m args below meth c H locs cells slots Q (F0 m pc ls (.int k :: .int n :: rest)) := by
  subst hN
  subst hM
  intro T hT Xs
  obtain ⟨vm₁, cA, comp, -, fA, fC, hO, -, X', step⟩ := Xs.multianewarray2F hexec hown hclink (va_AOA.use hover) harr (g := F0 m pc ls (.int k :: .int n :: rest)) rfl (by rw [hb]; exact hdg) rfl hn hk hb1 hb2 hb3 hdf hdd hcells hslots
  have ec : some cy = some comp := hcy.symm.trans fC
  cases ec
  generalize hF : Jvm.Free.Multi.fill (T.setVm vm₁) cA cy n.toNatClampNeg k.toNatClampNeg (defaultValue ty) n.toNatClampNeg = F at X' step
  have hTh : (T.setVm vm₁).heap = H := hT
  obtain ⟨f1, f2, -, -⟩ := Jvm.Free.Multi.fill_facts (T.setVm vm₁) cA cy n.toNatClampNeg k.toNatClampNeg (defaultValue ty) n.toNatClampNeg
  rw [hF, hTh] at f1 f2
  have hold : ∀ x : Nat, x < H.size → F.heap[x]? = H[x]? := fun x hx => by
    have := Jvm.Free.Multi.fill_old (T.setVm vm₁) cA cy n.toNatClampNeg k.toNatClampNeg (defaultValue ty) (a := x) (by rw [hTh]; exact hx) n.toNatClampNeg
    rw [hF, hTh] at this
    exact this
  have hrow : ∀ j : Nat, j < n.toNatClampNeg → F.heap[H.size + 1 + j]? = some (vp_cell cy z) := fun j hj => by
    have := Jvm.Free.Multi.fill_inner (T.setVm vm₁) cA cy n.toNatClampNeg k.toNatClampNeg (defaultValue ty) n.toNatClampNeg j hj
    rw [hF, hTh, hz] at this
    exact this
  have hout : Jvm.Free.Multi.outerC cA n.toNatClampNeg H.size n.toNatClampNeg = vp_cell cA (n.toNatClampNeg, .inr (.inr (.inr (.inr (fun i => if i < n.toNatClampNeg then some (H.size + 1 + i) else none))))) := by
    rw [vp_cell_q]
    exact vr_outer cA n.toNatClampNeg H.size n.toNatClampNeg
  rw [hout] at f2
  have hlt : ∀ a, a ∈ L → a < H.size := fun a ha => by
    obtain ⟨k9, hk9⟩ := va_pl_get (X := X) (f := f) ha
    exact (hP k9 _ hk9).lt
  have hnl : ∀ i : Nat, i < n.toNatClampNeg → H.size + 1 + i ∉ L := fun i _ h => by
    have := hlt _ h
    omega
  have hnm : ∀ a, a ∈ (List.range n.toNatClampNeg).map (fun i => H.size + 1 + i) → a ∉ L := fun a ha h => by
    obtain ⟨i, -, rfl⟩ := List.mem_map.mp ha
    have := hlt _ h
    omega
  have hP0 : va_P D cl (X ++ va_pl L f) F.heap := hP.kept (fun k9 x hx => hold x.1 ((hP k9 x hx).lt))
  have hP1 : va_P D cl ((X ++ va_pl L f) ++ [(H.size, .inl (cA, n.toNatClampNeg, .inr (.inr (.inr (.inr (fun i => if i < n.toNatClampNeg then some (H.size + 1 + i) else none))))))]) F.heap := hP0.app (fun k9 x hx => by
    have h0 : k9 < 1 := (List.getElem?_eq_some_iff.mp hx).1
    rw [show k9 = 0 by omega] at hx
    cases hx
    exact f2)
  have hP2 : va_P D cl (((X ++ va_pl L f) ++ [(H.size, .inl (cA, n.toNatClampNeg, .inr (.inr (.inr (.inr (fun i => if i < n.toNatClampNeg then some (H.size + 1 + i) else none))))))]) ++ ((List.range n.toNatClampNeg).map (fun i => H.size + 1 + i)).map (fun a => (a, .inl (cy, z)))) F.heap := hP1.app (fun k9 x hx => by
    obtain ⟨a, ha, rfl⟩ := List.mem_map.mp (List.mem_of_getElem? hx)
    obtain ⟨i, hi, rfl⟩ := List.mem_map.mp ha
    exact hrow i (List.mem_range.mp hi))
  have hD2 : va_D A (((X ++ va_pl L f) ++ [(H.size, .inl (cA, n.toNatClampNeg, .inr (.inr (.inr (.inr (fun i => if i < n.toNatClampNeg then some (H.size + 1 + i) else none))))))]) ++ ((List.range n.toNatClampNeg).map (fun i => H.size + 1 + i)).map (fun a => (a, .inl (cy, z)))) := by
    have hD1 := hD.push (e := .inl (cA, n.toNatClampNeg, .inr (.inr (.inr (.inr (fun i => if i < n.toNatClampNeg then some (H.size + 1 + i) else none)))))) hP rfl (hA _ hS.1)
    generalize hW1 : (X ++ va_pl L f) ++ [(H.size, .inl (cA, n.toNatClampNeg, .inr (.inr (.inr (.inr (fun i => if i < n.toNatClampNeg then some (H.size + 1 + i) else none))))))] = W1 at hD1 hP1 ⊢
    have hle : ∀ (k9 : Nat) (x : Nat × va_E), W1[k9]? = some x → x.1 ≤ H.size := fun k9 x hx => by
      rw [← hW1] at hx
      by_cases hl : k9 < (X ++ va_pl L f).length
      · rw [List.getElem?_append_left hl] at hx
        exact Nat.le_of_lt ((hP k9 x hx).lt)
      · rw [List.getElem?_append_right (by omega)] at hx
        have h0 : k9 - (X ++ va_pl L f).length < 1 := (List.getElem?_eq_some_iff.mp hx).1
        rw [show k9 - (X ++ va_pl L f).length = 0 by omega] at hx
        cases hx
        exact Nat.le_refl _
    have hr : ∀ (k9 : Nat) (x : Nat × va_E), (((List.range n.toNatClampNeg).map (fun i => H.size + 1 + i)).map (fun a => ((a, .inl (cy, z)) : Nat × va_E)))[k9]? = some x → x.1 = H.size + 1 + k9 := fun k9 x hx => by
      rw [List.getElem?_map, List.getElem?_map] at hx
      by_cases h9 : k9 < n.toNatClampNeg
      · rw [List.getElem?_range h9] at hx
        cases hx
        rfl
      · have hn0 : (List.range n.toNatClampNeg)[k9]? = none := List.getElem?_eq_none (by rw [List.length_range]; omega)
        rw [hn0] at hx
        cases hx
    refine ⟨fun i j x y hi hj hxy => ?_, fun k9 x hx => ?_⟩
    · by_cases h1 : i < W1.length <;> by_cases h2 : j < W1.length
      · rw [List.getElem?_append_left h1] at hi
        rw [List.getElem?_append_left h2] at hj
        exact hD1.1 i j x y hi hj hxy
      · rw [List.getElem?_append_left h1] at hi
        rw [List.getElem?_append_right (by omega)] at hj
        have := hle _ _ hi
        have := hr _ _ hj
        omega
      · rw [List.getElem?_append_right (by omega)] at hi
        rw [List.getElem?_append_left h2] at hj
        have := hle _ _ hj
        have := hr _ _ hi
        omega
      · rw [List.getElem?_append_right (by omega)] at hi hj
        have := hr _ _ hi
        have := hr _ _ hj
        omega
    · by_cases h1 : k9 < W1.length
      · rw [List.getElem?_append_left h1] at hx
        exact hD1.2 k9 x hx
      · rw [List.getElem?_append_right (by omega)] at hx
        have := hr _ _ hx
        exact hA _ (by have := hS.1; omega)
  have hAr : ArrOfT s cA (.array ty) := fun N9 z9 => by
    obtain ⟨-, k9, hk9, cm9, hkk9⟩ := (hO 0 0 0).1
    exact ⟨(fun q hq => by cases hq), k9, hk9, cm9, hkk9⟩
  have hK2 : va_K D cl (tys ++ [(cA, .array ty)]) s := ⟨hK.1, fun k9 x hx => by
    by_cases hl : k9 < tys.length
    · rw [List.getElem?_append_left hl] at hx
      exact hK.2 k9 x hx
    · rw [List.getElem?_append_right (by omega)] at hx
      have h0 : k9 - tys.length < 1 := (List.getElem?_eq_some_iff.mp hx).1
      rw [show k9 - tys.length = 0 by omega] at hx
      cases hx
      exact ⟨hAr, fA⟩⟩
  obtain ⟨t, a1, b1⟩ := kk H.size (fun i => H.size + 1 + i) cA F.heap (fun i j _ _ h => by have h9 : H.size + 1 + i = H.size + 1 + j := h; omega) hnl hK2 (by rw [← vr_rows hnm]; exact vr_lay hP2) (by rw [← vr_rows hnm]; exact vr_layD hD2) ⟨by rw [f1]; have := hS.1; omega, fun x h1 h2 => (hold x (Nat.lt_of_lt_of_le h1 hS.1)).trans (hS.2.1 x h1 h2), hS.2.2⟩ F rfl X'
  refine ⟨t, step t ?_, b1⟩
  have e : T.heap.size = H.size := by rw [hT]
  rw [e]
  exact a1
end VGM
/-! ===== END ===== -/
def RX0 : String := "TossRows$Both"
def TX0 : u_T := fun k => match k with
  | _ => ("", "", "", false)
def tyX0 : Nat → FieldType := fun k => match k with
  | _ => .int
theorem nmX0 : ∀ a, a < 0 → ∀ b, b < 0 → a ≠ b → (TX0 a).2.1 ≠ (TX0 b).2.1 := by decide +kernel
theorem tyX0_ok : ∀ k, k < 0 → parseFieldDescriptor (TX0 k).2.2.1 = some (tyX0 k) := by decide +kernel
abbrev cX0_init : ByteArray := prog_2_method_1_code
def yX0_init : MethodName := ⟨RX0, "<init>", "()V"⟩
abbrev cX0_rowsHitWith : ByteArray := prog_2_method_2_code
def yX0_rowsHitWith : MethodName := ⟨RX0, "rowsHitWith", "(II)I"⟩
def RX1 : String := "TossRows$Course"
def TX1 : u_T := fun k => match k with
  | 0 => ("TossRows$Course", "kind", "[I", true)
  | 1 => ("TossRows$Course", "row", "[I", true)
  | 2 => ("TossRows$Course", "won", "[I", true)
  | 3 => ("TossRows$Course", "seenPlayer", "[I", true)
  | 4 => ("TossRows$Course", "seenTail", "[I", true)
  | 5 => ("TossRows$Course", "seenHit", "[Z", true)
  | 6 => ("TossRows$Course", "seen", "I", false)
  | 7 => ("TossRows$Course", "tosses", "I", false)
  | 8 => ("TossRows$Course", "tossesOfGame", "I", false)
  | _ => ("TossRows$Course", "track", "I", false)
def tyX1 : Nat → FieldType := fun k => match k with
  | 0 => .array .int
  | 1 => .array .int
  | 2 => .array .int
  | 3 => .array .int
  | 4 => .array .int
  | 5 => .array .boolean
  | 6 => .int
  | 7 => .int
  | 8 => .int
  | _ => .int
theorem nmX1 : ∀ a, a < 10 → ∀ b, b < 10 → a ≠ b → (TX1 a).2.1 ≠ (TX1 b).2.1 := by decide +kernel
theorem tyX1_ok : ∀ k, k < 10 → parseFieldDescriptor (TX1 k).2.2.1 = some (tyX1 k) := by decide +kernel
abbrev cX1_init : ByteArray := prog_3_method_1_code
def yX1_init : MethodName := ⟨RX1, "<init>", "()V"⟩
abbrev cX1_clear : ByteArray := prog_3_method_2_code
def yX1_clear : MethodName := ⟨RX1, "clear", "()V"⟩
abbrev cX1_beginGame : ByteArray := prog_3_method_3_code
def yX1_beginGame : MethodName := ⟨RX1, "beginGame", "()V"⟩
abbrev cX1_addSeen : ByteArray := prog_3_method_4_code
def yX1_addSeen : MethodName := ⟨RX1, "addSeen", "(IIZ)V"⟩
abbrev cX1_wonByAll : ByteArray := prog_3_method_5_code
def yX1_wonByAll : MethodName := ⟨RX1, "wonByAll", "()I"⟩
abbrev cX1_take : ByteArray := prog_3_method_6_code
def yX1_take : MethodName := ⟨RX1, "take", "(LTossRows$Course;)V"⟩
def RX2 : String := "TossRows$Either"
def TX2 : u_T := fun k => match k with
  | _ => ("", "", "", false)
def tyX2 : Nat → FieldType := fun k => match k with
  | _ => .int
theorem nmX2 : ∀ a, a < 0 → ∀ b, b < 0 → a ≠ b → (TX2 a).2.1 ≠ (TX2 b).2.1 := by decide +kernel
theorem tyX2_ok : ∀ k, k < 0 → parseFieldDescriptor (TX2 k).2.2.1 = some (tyX2 k) := by decide +kernel
abbrev cX2_init : ByteArray := prog_4_method_1_code
def yX2_init : MethodName := ⟨RX2, "<init>", "()V"⟩
abbrev cX2_rowsHitWith : ByteArray := prog_4_method_2_code
def yX2_rowsHitWith : MethodName := ⟨RX2, "rowsHitWith", "(II)I"⟩
def RX3 : String := "TossRows$Mirror"
def TX3 : u_T := fun k => match k with
  | _ => ("", "", "", false)
def tyX3 : Nat → FieldType := fun k => match k with
  | _ => .int
theorem nmX3 : ∀ a, a < 0 → ∀ b, b < 0 → a ≠ b → (TX3 a).2.1 ≠ (TX3 b).2.1 := by decide +kernel
theorem tyX3_ok : ∀ k, k < 0 → parseFieldDescriptor (TX3 k).2.2.1 = some (tyX3 k) := by decide +kernel
abbrev cX3_init : ByteArray := prog_5_method_1_code
def yX3_init : MethodName := ⟨RX3, "<init>", "()V"⟩
abbrev cX3_rowsHitWith : ByteArray := prog_5_method_2_code
def yX3_rowsHitWith : MethodName := ⟨RX3, "rowsHitWith", "(II)I"⟩
def RX4 : String := "TossRows$Other"
def TX4 : u_T := fun k => match k with
  | _ => ("", "", "", false)
def tyX4 : Nat → FieldType := fun k => match k with
  | _ => .int
theorem nmX4 : ∀ a, a < 0 → ∀ b, b < 0 → a ≠ b → (TX4 a).2.1 ≠ (TX4 b).2.1 := by decide +kernel
theorem tyX4_ok : ∀ k, k < 0 → parseFieldDescriptor (TX4 k).2.2.1 = some (tyX4 k) := by decide +kernel
abbrev cX4_init : ByteArray := prog_6_method_1_code
def yX4_init : MethodName := ⟨RX4, "<init>", "()V"⟩
abbrev cX4_rowsHitWith : ByteArray := prog_6_method_2_code
def yX4_rowsHitWith : MethodName := ⟨RX4, "rowsHitWith", "(II)I"⟩
def RX5 : String := "TossRows$Page"
def TX5 : u_T := fun k => match k with
  | 0 => ("TossRows$Page", "letters", "[C", true)
  | _ => ("TossRows$Page", "length", "I", false)
def tyX5 : Nat → FieldType := fun k => match k with
  | 0 => .array .char
  | _ => .int
theorem nmX5 : ∀ a, a < 2 → ∀ b, b < 2 → a ≠ b → (TX5 a).2.1 ≠ (TX5 b).2.1 := by decide +kernel
theorem tyX5_ok : ∀ k, k < 2 → parseFieldDescriptor (TX5 k).2.2.1 = some (tyX5 k) := by decide +kernel
abbrev cX5_init : ByteArray := prog_7_method_1_code
def yX5_init : MethodName := ⟨RX5, "<init>", "()V"⟩
abbrev cX5_length : ByteArray := prog_7_method_2_code
def yX5_length : MethodName := ⟨RX5, "length", "()I"⟩
abbrev cX5_isFull : ByteArray := prog_7_method_3_code
def yX5_isFull : MethodName := ⟨RX5, "isFull", "()Z"⟩
abbrev cX5_append : ByteArray := prog_7_method_4_code
def yX5_append : MethodName := ⟨RX5, "append", "(C)V"⟩
abbrev cX5_clear : ByteArray := prog_7_method_5_code
def yX5_clear : MethodName := ⟨RX5, "clear", "()V"⟩
abbrev cX5_at : ByteArray := prog_7_method_6_code
def yX5_at : MethodName := ⟨RX5, "at", "(I)C"⟩
abbrev cX5_size : ByteArray := prog_7_method_7_code
def yX5_size : MethodName := ⟨RX5, "size", "()I"⟩
abbrev cX5_firstWrong : ByteArray := prog_7_method_8_code
def yX5_firstWrong : MethodName := ⟨RX5, "firstWrong", "()I"⟩
abbrev cX5_playersOfTable : ByteArray := prog_7_method_9_code
def yX5_playersOfTable : MethodName := ⟨RX5, "playersOfTable", "()I"⟩
abbrev cX5_kindOf : ByteArray := prog_7_method_10_code
def yX5_kindOf : MethodName := ⟨RX5, "kindOf", "(I)I"⟩
abbrev cX5_rowOf : ByteArray := prog_7_method_11_code
def yX5_rowOf : MethodName := ⟨RX5, "rowOf", "(I)I"⟩
abbrev cX5_placeOf : ByteArray := prog_7_method_12_code
def yX5_placeOf : MethodName := ⟨RX5, "placeOf", "(I)I"⟩
abbrev cX5_step : ByteArray := prog_7_method_13_code
def yX5_step : MethodName := ⟨RX5, "step", "()I"⟩
abbrev cX5_canStand : ByteArray := prog_7_method_14_code
def yX5_canStand : MethodName := ⟨RX5, "canStand", "(I)Z"⟩
def RX6 : String := "TossRows$Plain"
def TX6 : u_T := fun k => match k with
  | _ => ("", "", "", false)
def tyX6 : Nat → FieldType := fun k => match k with
  | _ => .int
theorem nmX6 : ∀ a, a < 0 → ∀ b, b < 0 → a ≠ b → (TX6 a).2.1 ≠ (TX6 b).2.1 := by decide +kernel
theorem tyX6_ok : ∀ k, k < 0 → parseFieldDescriptor (TX6 k).2.2.1 = some (tyX6 k) := by decide +kernel
abbrev cX6_init : ByteArray := prog_8_method_1_code
def yX6_init : MethodName := ⟨RX6, "<init>", "()V"⟩
abbrev cX6_rowsHitWith : ByteArray := prog_8_method_2_code
def yX6_rowsHitWith : MethodName := ⟨RX6, "rowsHitWith", "(II)I"⟩
def RX7 : String := "TossRows$Race"
def TX7 : u_T := fun k => match k with
  | 0 => ("TossRows$Race", "rows", "[I", true)
  | 1 => ("TossRows$Race", "sums", "[[J", true)
  | _ => ("TossRows$Race", "many", "I", false)
def tyX7 : Nat → FieldType := fun k => match k with
  | 0 => .array .int
  | 1 => .array (.array .long)
  | _ => .int
theorem nmX7 : ∀ a, a < 3 → ∀ b, b < 3 → a ≠ b → (TX7 a).2.1 ≠ (TX7 b).2.1 := by decide +kernel
theorem tyX7_ok : ∀ k, k < 3 → parseFieldDescriptor (TX7 k).2.2.1 = some (tyX7 k) := by decide +kernel
abbrev cX7_init : ByteArray := prog_9_method_1_code
def yX7_init : MethodName := ⟨RX7, "<init>", "()V"⟩
abbrev cX7_waitFor : ByteArray := prog_9_method_2_code
def yX7_waitFor : MethodName := ⟨RX7, "waitFor", "(II)I"⟩
abbrev cX7_chance : ByteArray := prog_9_method_3_code
def yX7_chance : MethodName := ⟨RX7, "chance", "(III)I"⟩
abbrev cX7_run : ByteArray := prog_9_method_4_code
def yX7_run : MethodName := ⟨RX7, "run", "(II)J"⟩
abbrev cX7_eliminate : ByteArray := prog_9_method_5_code
def yX7_eliminate : MethodName := ⟨RX7, "eliminate", "([J[JIJ)V"⟩
abbrev cX7_setRows : ByteArray := prog_9_method_6_code
def yX7_setRows : MethodName := ⟨RX7, "setRows", "(II)V"⟩
abbrev cX7_setSums : ByteArray := prog_9_method_7_code
def yX7_setSums : MethodName := ⟨RX7, "setSums", "(I)V"⟩
abbrev cX7_overlap : ByteArray := prog_9_method_8_code
def yX7_overlap : MethodName := ⟨RX7, "overlap", "(III)I"⟩
abbrev cX7_sharesOf : ByteArray := prog_9_method_9_code
def yX7_sharesOf : MethodName := ⟨RX7, "sharesOf", "(I)J"⟩
def RX8 : String := "TossRows"
def TX8 : u_T := fun k => match k with
  | 0 => ("TossRows", "page", "LTossRows$Page;", true)
  | 1 => ("TossRows", "now", "LTossRows$Course;", true)
  | 2 => ("TossRows", "kept", "LTossRows$Course;", true)
  | 3 => ("TossRows", "race", "LTossRows$Race;", true)
  | 4 => ("TossRows", "kinds", "[LTossRows$Plain;", true)
  | 5 => ("TossRows", "wins", "[I", true)
  | 6 => ("TossRows", "ways", "[I", true)
  | 7 => ("TossRows", "waysThen", "[I", true)
  | 8 => ("TossRows", "isKept", "Z", false)
  | 9 => ("TossRows", "players", "I", false)
  | 10 => ("TossRows", "size", "I", false)
  | _ => ("TossRows", "reads", "I", false)
def tyX8 : Nat → FieldType := fun k => match k with
  | 0 => .object "TossRows$Page"
  | 1 => .object "TossRows$Course"
  | 2 => .object "TossRows$Course"
  | 3 => .object "TossRows$Race"
  | 4 => .array (.object "TossRows$Plain")
  | 5 => .array .int
  | 6 => .array .int
  | 7 => .array .int
  | 8 => .boolean
  | 9 => .int
  | 10 => .int
  | _ => .int
theorem nmX8 : ∀ a, a < 12 → ∀ b, b < 12 → a ≠ b → (TX8 a).2.1 ≠ (TX8 b).2.1 := by decide +kernel
theorem tyX8_ok : ∀ k, k < 12 → parseFieldDescriptor (TX8 k).2.2.1 = some (tyX8 k) := by decide +kernel
abbrev cX8_init : ByteArray := prog_1_method_1_code
def yX8_init : MethodName := ⟨RX8, "<init>", "()V"⟩
abbrev cX8_letter : ByteArray := prog_1_method_2_code
def yX8_letter : MethodName := ⟨RX8, "letter", "(I)I"⟩
abbrev cX8_blank : ByteArray := prog_1_method_3_code
def yX8_blank : MethodName := ⟨RX8, "blank", "()I"⟩
abbrev cX8_fault : ByteArray := prog_1_method_4_code
def yX8_fault : MethodName := ⟨RX8, "fault", "()I"⟩
abbrev cX8_table : ByteArray := prog_1_method_5_code
def yX8_table : MethodName := ⟨RX8, "table", "()I"⟩
abbrev cX8_player : ByteArray := prog_1_method_6_code
def yX8_player : MethodName := ⟨RX8, "player", "(II)I"⟩
abbrev cX8_as : ByteArray := prog_1_method_7_code
def yX8_as : MethodName := ⟨RX8, "as", "(II)I"⟩
abbrev cX8_hits : ByteArray := prog_1_method_8_code
def yX8_hits : MethodName := ⟨RX8, "hits", "(II)I"⟩
abbrev cX8_toss : ByteArray := prog_1_method_9_code
def yX8_toss : MethodName := ⟨RX8, "toss", "(I)I"⟩
abbrev cX8_anew : ByteArray := prog_1_method_10_code
def yX8_anew : MethodName := ⟨RX8, "anew", "()I"⟩
abbrev cX8_bet : ByteArray := prog_1_method_11_code
def yX8_bet : MethodName := ⟨RX8, "bet", "(II)I"⟩
abbrev cX8_be : ByteArray := prog_1_method_12_code
def yX8_be : MethodName := ⟨RX8, "be", "(II)I"⟩
abbrev cX8_duel : ByteArray := prog_1_method_13_code
def yX8_duel : MethodName := ⟨RX8, "duel", "(II)I"⟩
abbrev cX8_answer : ByteArray := prog_1_method_14_code
def yX8_answer : MethodName := ⟨RX8, "answer", "(II)I"⟩
abbrev cX8_open : ByteArray := prog_1_method_15_code
def yX8_open : MethodName := ⟨RX8, "open", "(I)I"⟩
abbrev cX8_ring : ByteArray := prog_1_method_16_code
def yX8_ring : MethodName := ⟨RX8, "ring", "()I"⟩
abbrev cX8_odds : ByteArray := prog_1_method_17_code
def yX8_odds : MethodName := ⟨RX8, "odds", "(III)I"⟩
abbrev cX8_see : ByteArray := prog_1_method_18_code
def yX8_see : MethodName := ⟨RX8, "see", "(IIZ)I"⟩
abbrev cX8_forget : ByteArray := prog_1_method_19_code
def yX8_forget : MethodName := ⟨RX8, "forget", "()I"⟩
abbrev cX8_games : ByteArray := prog_1_method_20_code
def yX8_games : MethodName := ⟨RX8, "games", "(III)I"⟩
abbrev cX8_image : ByteArray := prog_1_method_21_code
def yX8_image : MethodName := ⟨RX8, "image", "()I"⟩
abbrev cX8_restore : ByteArray := prog_1_method_22_code
def yX8_restore : MethodName := ⟨RX8, "restore", "()I"⟩
abbrev cX8_count : ByteArray := prog_1_method_23_code
def yX8_count : MethodName := ⟨RX8, "count", "(I)I"⟩
abbrev cX8_digest : ByteArray := prog_1_method_24_code
def yX8_digest : MethodName := ⟨RX8, "digest", "()J"⟩
abbrev cX8_with : ByteArray := prog_1_method_25_code
def yX8_with : MethodName := ⟨RX8, "with", "(JJ)J"⟩
abbrev cX8_isPlayer : ByteArray := prog_1_method_26_code
def yX8_isPlayer : MethodName := ⟨RX8, "isPlayer", "(I)Z"⟩
abbrev cX8_isRow : ByteArray := prog_1_method_27_code
def yX8_isRow : MethodName := ⟨RX8, "isRow", "(I)Z"⟩
abbrev cX8_isKind : ByteArray := prog_1_method_28_code
def yX8_isKind : MethodName := ⟨RX8, "isKind", "(I)Z"⟩
abbrev cX8_kindAt : ByteArray := prog_1_method_29_code
def yX8_kindAt : MethodName := ⟨RX8, "kindAt", "(I)LTossRows$Plain;"⟩
abbrev cX8_isSuch : ByteArray := prog_1_method_30_code
def yX8_isSuch : MethodName := ⟨RX8, "isSuch", "(LTossRows$Plain;I)Z"⟩
abbrev cX8_rowsHitBy : ByteArray := prog_1_method_31_code
def yX8_rowsHitBy : MethodName := ⟨RX8, "rowsHitBy", "(I)I"⟩
abbrev cX8_has : ByteArray := prog_1_method_32_code
def yX8_has : MethodName := ⟨RX8, "has", "(II)Z"⟩
abbrev cX8_trackBehind : ByteArray := prog_1_method_33_code
def yX8_trackBehind : MethodName := ⟨RX8, "trackBehind", "(II)I"⟩
abbrev cX8_tailOf : ByteArray := prog_1_method_34_code
def yX8_tailOf : MethodName := ⟨RX8, "tailOf", "(I)I"⟩
abbrev cX8_hittersAt : ByteArray := prog_1_method_35_code
def yX8_hittersAt : MethodName := ⟨RX8, "hittersAt", "(I)I"⟩
abbrev cX8_addWins : ByteArray := prog_1_method_36_code
def yX8_addWins : MethodName := ⟨RX8, "addWins", "(I[I)V"⟩
abbrev cX8_mostWins : ByteArray := prog_1_method_37_code
def yX8_mostWins : MethodName := ⟨RX8, "mostWins", "()I"⟩
abbrev cX8_nextSeed : ByteArray := prog_1_method_38_code
def yX8_nextSeed : MethodName := ⟨RX8, "nextSeed", "(I)I"⟩
abbrev cX8_bestAgainst : ByteArray := prog_1_method_39_code
def yX8_bestAgainst : MethodName := ⟨RX8, "bestAgainst", "(I)I"⟩
abbrev cX8_dangerOf : ByteArray := prog_1_method_40_code
def yX8_dangerOf : MethodName := ⟨RX8, "dangerOf", "(I)I"⟩
abbrev cX8_bestToOpen : ByteArray := prog_1_method_41_code
def yX8_bestToOpen : MethodName := ⟨RX8, "bestToOpen", "()I"⟩
abbrev cX8_beatBit : ByteArray := prog_1_method_42_code
def yX8_beatBit : MethodName := ⟨RX8, "beatBit", "(II)I"⟩
abbrev cX8_whoBeatsWhom : ByteArray := prog_1_method_43_code
def yX8_whoBeatsWhom : MethodName := ⟨RX8, "whoBeatsWhom", "()I"⟩
abbrev cX8_isRing : ByteArray := prog_1_method_44_code
def yX8_isRing : MethodName := ⟨RX8, "isRing", "(II)Z"⟩
abbrev cX8_closes : ByteArray := prog_1_method_45_code
def yX8_closes : MethodName := ⟨RX8, "closes", "(IIIII)Z"⟩
abbrev cX8_waysToWin : ByteArray := prog_1_method_46_code
def yX8_waysToWin : MethodName := ⟨RX8, "waysToWin", "(II)I"⟩
abbrev cX8_winsByToss : ByteArray := prog_1_method_47_code
def yX8_winsByToss : MethodName := ⟨RX8, "winsByToss", "(II)I"⟩
abbrev cX8_betsThatHit : ByteArray := prog_1_method_48_code
def yX8_betsThatHit : MethodName := ⟨RX8, "betsThatHit", "(LTossRows$Plain;I)I"⟩
abbrev cX8_rowsLeft : ByteArray := prog_1_method_49_code
def yX8_rowsLeft : MethodName := ⟨RX8, "rowsLeft", "(I)I"⟩
abbrev cX8_nextTry : ByteArray := prog_1_method_50_code
def yX8_nextTry : MethodName := ⟨RX8, "nextTry", "(I)I"⟩
abbrev cX8_fromItsEnd : ByteArray := prog_1_method_51_code
def yX8_fromItsEnd : MethodName := ⟨RX8, "fromItsEnd", "(II)I"⟩
abbrev cX8_withOtherSigns : ByteArray := prog_1_method_52_code
def yX8_withOtherSigns : MethodName := ⟨RX8, "withOtherSigns", "(II)I"⟩
def RX9 : String := "TossRowsModel"
def TX9 : u_T := fun k => match k with
  | 0 => ("TossRowsModel", "tables", "I", false)
  | 1 => ("TossRowsModel", "players", "I", false)
  | 2 => ("TossRowsModel", "length", "I", false)
  | 3 => ("TossRowsModel", "kindOf", "[I", true)
  | 4 => ("TossRowsModel", "rowOf", "[I", true)
  | 5 => ("TossRowsModel", "wonBy", "[I", true)
  | 6 => ("TossRowsModel", "tossed", "I", false)
  | 7 => ("TossRowsModel", "latest", "I", false)
  | 8 => ("TossRowsModel", "tosses", "I", false)
  | 9 => ("TossRowsModel", "seen", "I", false)
  | 10 => ("TossRowsModel", "seenPlayer", "[I", true)
  | 11 => ("TossRowsModel", "seenTail", "[I", true)
  | 12 => ("TossRowsModel", "seenHits", "[I", true)
  | 13 => ("TossRowsModel", "pageLength", "I", false)
  | 14 => ("TossRowsModel", "page", "[B", true)
  | 15 => ("TossRowsModel", "isWhole", "Z", false)
  | 16 => ("TossRowsModel", "newLength", "I", false)
  | 17 => ("TossRowsModel", "newPlayers", "I", false)
  | 18 => ("TossRowsModel", "by", "[J", true)
  | 19 => ("TossRowsModel", "beats", "[I", true)
  | 20 => ("TossRowsModel", "waysOf", "[I", true)
  | 21 => ("TossRowsModel", "waysNext", "[I", true)
  | 22 => ("TossRowsModel", "seedNow", "J", false)
  | 23 => ("TossRowsModel", "wonNow", "[I", true)
  | 24 => ("TossRowsModel", "isKept", "Z", false)
  | 25 => ("TossRowsModel", "keptTable", "I", false)
  | 26 => ("TossRowsModel", "keptTossed", "I", false)
  | 27 => ("TossRowsModel", "keptLatest", "I", false)
  | 28 => ("TossRowsModel", "keptTosses", "I", false)
  | 29 => ("TossRowsModel", "keptSeen", "I", false)
  | 30 => ("TossRowsModel", "keptKind", "[I", true)
  | 31 => ("TossRowsModel", "keptRow", "[I", true)
  | 32 => ("TossRowsModel", "keptWon", "[I", true)
  | 33 => ("TossRowsModel", "keptPlayer", "[I", true)
  | 34 => ("TossRowsModel", "keptTail", "[I", true)
  | 35 => ("TossRowsModel", "keptHits", "[I", true)
  | _ => ("TossRowsModel", "h", "J", false)
def tyX9 : Nat → FieldType := fun k => match k with
  | 0 => .int
  | 1 => .int
  | 2 => .int
  | 3 => .array .int
  | 4 => .array .int
  | 5 => .array .int
  | 6 => .int
  | 7 => .int
  | 8 => .int
  | 9 => .int
  | 10 => .array .int
  | 11 => .array .int
  | 12 => .array .int
  | 13 => .int
  | 14 => .array .byte
  | 15 => .boolean
  | 16 => .int
  | 17 => .int
  | 18 => .array .long
  | 19 => .array .int
  | 20 => .array .int
  | 21 => .array .int
  | 22 => .long
  | 23 => .array .int
  | 24 => .boolean
  | 25 => .int
  | 26 => .int
  | 27 => .int
  | 28 => .int
  | 29 => .int
  | 30 => .array .int
  | 31 => .array .int
  | 32 => .array .int
  | 33 => .array .int
  | 34 => .array .int
  | 35 => .array .int
  | _ => .long
theorem nmX9 : ∀ a, a < 37 → ∀ b, b < 37 → a ≠ b → (TX9 a).2.1 ≠ (TX9 b).2.1 := by decide +kernel
theorem tyX9_ok : ∀ k, k < 37 → parseFieldDescriptor (TX9 k).2.2.1 = some (tyX9 k) := by decide +kernel
abbrev cX9_init : ByteArray := prog_11_method_1_code
def yX9_init : MethodName := ⟨RX9, "<init>", "()V"⟩
abbrev cX9_within : ByteArray := prog_11_method_3_code
def yX9_within : MethodName := ⟨RX9, "within", "(III)Z"⟩
abbrev cX9_isIn : ByteArray := prog_11_method_4_code
def yX9_isIn : MethodName := ⟨RX9, "isIn", "(II)Z"⟩
abbrev cX9_size : ByteArray := prog_11_method_5_code
def yX9_size : MethodName := ⟨RX9, "size", "(I)I"⟩
abbrev cX9_divisor : ByteArray := prog_11_method_6_code
def yX9_divisor : MethodName := ⟨RX9, "divisor", "(II)I"⟩
abbrev cX9_letter : ByteArray := prog_11_method_7_code
def yX9_letter : MethodName := ⟨RX9, "letter", "(I)I"⟩
abbrev cX9_blank : ByteArray := prog_11_method_8_code
def yX9_blank : MethodName := ⟨RX9, "blank", "()I"⟩
abbrev cX9_kindBy : ByteArray := prog_11_method_9_code
def yX9_kindBy : MethodName := ⟨RX9, "kindBy", "(I)I"⟩
abbrev cX9_at : ByteArray := prog_11_method_10_code
def yX9_at : MethodName := ⟨RX9, "at", "(I)I"⟩
abbrev cX9_readPlayer : ByteArray := prog_11_method_11_code
def yX9_readPlayer : MethodName := ⟨RX9, "readPlayer", "(I)I"⟩
abbrev cX9_read : ByteArray := prog_11_method_12_code
def yX9_read : MethodName := ⟨RX9, "read", "()I"⟩
abbrev cX9_fault : ByteArray := prog_11_method_13_code
def yX9_fault : MethodName := ⟨RX9, "fault", "()I"⟩
abbrev cX9_rowAt : ByteArray := prog_11_method_14_code
def yX9_rowAt : MethodName := ⟨RX9, "rowAt", "(I)I"⟩
abbrev cX9_table : ByteArray := prog_11_method_15_code
def yX9_table : MethodName := ⟨RX9, "table", "()I"⟩
abbrev cX9_isPlayer : ByteArray := prog_11_method_16_code
def yX9_isPlayer : MethodName := ⟨RX9, "isPlayer", "(I)Z"⟩
abbrev cX9_rows : ByteArray := prog_11_method_17_code
def yX9_rows : MethodName := ⟨RX9, "rows", "()I"⟩
abbrev cX9_isRow : ByteArray := prog_11_method_18_code
def yX9_isRow : MethodName := ⟨RX9, "isRow", "(I)Z"⟩
abbrev cX9_turned : ByteArray := prog_11_method_19_code
def yX9_turned : MethodName := ⟨RX9, "turned", "(I)I"⟩
abbrev cX9_hitsBy : ByteArray := prog_11_method_20_code
def yX9_hitsBy : MethodName := ⟨RX9, "hitsBy", "(II)I"⟩
abbrev cX9_hitsOf : ByteArray := prog_11_method_21_code
def yX9_hitsOf : MethodName := ⟨RX9, "hitsOf", "(I)I"⟩
abbrev cX9_playerNow : ByteArray := prog_11_method_22_code
def yX9_playerNow : MethodName := ⟨RX9, "playerNow", "(II)I"⟩
abbrev cX9_player : ByteArray := prog_11_method_23_code
def yX9_player : MethodName := ⟨RX9, "player", "(II)I"⟩
abbrev cX9_as : ByteArray := prog_11_method_24_code
def yX9_as : MethodName := ⟨RX9, "as", "(II)I"⟩
abbrev cX9_hits : ByteArray := prog_11_method_25_code
def yX9_hits : MethodName := ⟨RX9, "hits", "(II)I"⟩
abbrev cX9_whoHits : ByteArray := prog_11_method_26_code
def yX9_whoHits : MethodName := ⟨RX9, "whoHits", "(II)I"⟩
abbrev cX9_toss : ByteArray := prog_11_method_27_code
def yX9_toss : MethodName := ⟨RX9, "toss", "(I)I"⟩
abbrev cX9_anew : ByteArray := prog_11_method_28_code
def yX9_anew : MethodName := ⟨RX9, "anew", "()I"⟩
abbrev cX9_bet : ByteArray := prog_11_method_29_code
def yX9_bet : MethodName := ⟨RX9, "bet", "(II)I"⟩
abbrev cX9_be : ByteArray := prog_11_method_30_code
def yX9_be : MethodName := ⟨RX9, "be", "(II)I"⟩
abbrev cX9_unknowns : ByteArray := prog_11_method_31_code
def yX9_unknowns : MethodName := ⟨RX9, "unknowns", "()I"⟩
abbrev cX9_clear : ByteArray := prog_11_method_32_code
def yX9_clear : MethodName := ⟨RX9, "clear", "()V"⟩
abbrev cX9_exchange : ByteArray := prog_11_method_33_code
def yX9_exchange : MethodName := ⟨RX9, "exchange", "(II)V"⟩
abbrev cX9_eliminate : ByteArray := prog_11_method_34_code
def yX9_eliminate : MethodName := ⟨RX9, "eliminate", "(IJ)V"⟩
abbrev cX9_solve : ByteArray := prog_11_method_35_code
def yX9_solve : MethodName := ⟨RX9, "solve", "()V"⟩
abbrev cX9_middle : ByteArray := prog_11_method_36_code
def yX9_middle : MethodName := ⟨RX9, "middle", "(J)J"⟩
abbrev cX9_waitOf : ByteArray := prog_11_method_37_code
def yX9_waitOf : MethodName := ⟨RX9, "waitOf", "(I)I"⟩
abbrev cX9_duelOf : ByteArray := prog_11_method_38_code
def yX9_duelOf : MethodName := ⟨RX9, "duelOf", "(II)I"⟩
abbrev cX9_duelNow : ByteArray := prog_11_method_39_code
def yX9_duelNow : MethodName := ⟨RX9, "duelNow", "(II)I"⟩
abbrev cX9_duel : ByteArray := prog_11_method_40_code
def yX9_duel : MethodName := ⟨RX9, "duel", "(II)I"⟩
abbrev cX9_answerNow : ByteArray := prog_11_method_41_code
def yX9_answerNow : MethodName := ⟨RX9, "answerNow", "(II)I"⟩
abbrev cX9_answer : ByteArray := prog_11_method_42_code
def yX9_answer : MethodName := ⟨RX9, "answer", "(II)I"⟩
abbrev cX9_mostAgainst : ByteArray := prog_11_method_43_code
def yX9_mostAgainst : MethodName := ⟨RX9, "mostAgainst", "(I)I"⟩
abbrev cX9_openNow : ByteArray := prog_11_method_44_code
def yX9_openNow : MethodName := ⟨RX9, "openNow", "(I)I"⟩
abbrev cX9_open : ByteArray := prog_11_method_45_code
def yX9_open : MethodName := ⟨RX9, "open", "(I)I"⟩
abbrev cX9_layBeats : ByteArray := prog_11_method_46_code
def yX9_layBeats : MethodName := ⟨RX9, "layBeats", "()V"⟩
abbrev cX9_isRound : ByteArray := prog_11_method_47_code
def yX9_isRound : MethodName := ⟨RX9, "isRound", "(III)Z"⟩
abbrev cX9_isRoundOfFour : ByteArray := prog_11_method_48_code
def yX9_isRoundOfFour : MethodName := ⟨RX9, "isRoundOfFour", "(IIII)Z"⟩
abbrev cX9_ringNow : ByteArray := prog_11_method_49_code
def yX9_ringNow : MethodName := ⟨RX9, "ringNow", "()I"⟩
abbrev cX9_ring : ByteArray := prog_11_method_50_code
def yX9_ring : MethodName := ⟨RX9, "ring", "()I"⟩
abbrev cX9_behind : ByteArray := prog_11_method_51_code
def yX9_behind : MethodName := ⟨RX9, "behind", "(II)I"⟩
abbrev cX9_tossWays : ByteArray := prog_11_method_52_code
def yX9_tossWays : MethodName := ⟨RX9, "tossWays", "(II)I"⟩
abbrev cX9_stateNow : ByteArray := prog_11_method_53_code
def yX9_stateNow : MethodName := ⟨RX9, "stateNow", "()I"⟩
abbrev cX9_oddsNow : ByteArray := prog_11_method_54_code
def yX9_oddsNow : MethodName := ⟨RX9, "oddsNow", "(III)I"⟩
abbrev cX9_odds : ByteArray := prog_11_method_55_code
def yX9_odds : MethodName := ⟨RX9, "odds", "(III)I"⟩
abbrev cX9_see : ByteArray := prog_11_method_56_code
def yX9_see : MethodName := ⟨RX9, "see", "(IIZ)I"⟩
abbrev cX9_forget : ByteArray := prog_11_method_57_code
def yX9_forget : MethodName := ⟨RX9, "forget", "()I"⟩
abbrev cX9_rowsOf : ByteArray := prog_11_method_58_code
def yX9_rowsOf : MethodName := ⟨RX9, "rowsOf", "(I)I"⟩
abbrev cX9_tryFor : ByteArray := prog_11_method_59_code
def yX9_tryFor : MethodName := ⟨RX9, "tryFor", "(I)I"⟩
abbrev cX9_draw : ByteArray := prog_11_method_60_code
def yX9_draw : MethodName := ⟨RX9, "draw", "(I)I"⟩
abbrev cX9_mostWon : ByteArray := prog_11_method_61_code
def yX9_mostWon : MethodName := ⟨RX9, "mostWon", "()I"⟩
abbrev cX9_gamesNow : ByteArray := prog_11_method_62_code
def yX9_gamesNow : MethodName := ⟨RX9, "gamesNow", "(III)I"⟩
abbrev cX9_games : ByteArray := prog_11_method_63_code
def yX9_games : MethodName := ⟨RX9, "games", "(III)I"⟩
abbrev cX9_image : ByteArray := prog_11_method_64_code
def yX9_image : MethodName := ⟨RX9, "image", "()I"⟩
abbrev cX9_restore : ByteArray := prog_11_method_65_code
def yX9_restore : MethodName := ⟨RX9, "restore", "()I"⟩
abbrev cX9_wonByAll : ByteArray := prog_11_method_66_code
def yX9_wonByAll : MethodName := ⟨RX9, "wonByAll", "()I"⟩
abbrev cX9_tailNow : ByteArray := prog_11_method_67_code
def yX9_tailNow : MethodName := ⟨RX9, "tailNow", "()I"⟩
abbrev cX9_howMany : ByteArray := prog_11_method_68_code
def yX9_howMany : MethodName := ⟨RX9, "howMany", "(I)I"⟩
abbrev cX9_count : ByteArray := prog_11_method_69_code
def yX9_count : MethodName := ⟨RX9, "count", "(I)I"⟩
abbrev cX9_mix : ByteArray := prog_11_method_70_code
def yX9_mix : MethodName := ⟨RX9, "mix", "(J)V"⟩
abbrev cX9_mixPlayer : ByteArray := prog_11_method_71_code
def yX9_mixPlayer : MethodName := ⟨RX9, "mixPlayer", "(I)V"⟩
abbrev cX9_digest : ByteArray := prog_11_method_72_code
def yX9_digest : MethodName := ⟨RX9, "digest", "()J"⟩
def RJx145de : String := "java/io/Serializable"
def TJx145de : u_T := fun k => match k with
  | _ => ("", "", "", false)
def tyJx145de : Nat → FieldType := fun k => match k with
  | _ => .int
def RJx9f9b0 : String := "java/lang/CharSequence"
def TJx9f9b0 : u_T := fun k => match k with
  | _ => ("", "", "", false)
def tyJx9f9b0 : Nat → FieldType := fun k => match k with
  | _ => .int
def RJ11 : String := "java/lang/Character"
def TJ11 : u_T := fun k => match k with
  | _ => ("", "", "", false)
def tyJ11 : Nat → FieldType := fun k => match k with
  | _ => .int
theorem nmJ11 : ∀ a, a < 0 → ∀ b, b < 0 → a ≠ b → (TJ11 a).2.1 ≠ (TJ11 b).2.1 := by decide +kernel
theorem tyJ11_ok : ∀ k, k < 0 → parseFieldDescriptor (TJ11 k).2.2.1 = some (tyJ11 k) := by decide +kernel
abbrev cJ11_isValidCodePoint_9a6ad : ByteArray := prog_12_method_11_code
def yJ11_isValidCodePoint_9a6ad : MethodName := ⟨RJ11, "isValidCodePoint", "(I)Z"⟩
abbrev cJ11_highSurrogate_5068e : ByteArray := prog_12_method_28_code
def yJ11_highSurrogate_5068e : MethodName := ⟨RJ11, "highSurrogate", "(I)C"⟩
abbrev cJ11_lowSurrogate_5068e : ByteArray := prog_12_method_29_code
def yJ11_lowSurrogate_5068e : MethodName := ⟨RJ11, "lowSurrogate", "(I)C"⟩
def RJxb160c : String := "java/lang/Comparable"
def TJxb160c : u_T := fun k => match k with
  | _ => ("", "", "", false)
def tyJxb160c : Nat → FieldType := fun k => match k with
  | _ => .int
def RJ6 : String := "java/lang/Integer"
def TJ6 : u_T := fun k => match k with
  | _ => ("", "", "", false)
def tyJ6 : Nat → FieldType := fun k => match k with
  | _ => .int
theorem nmJ6 : ∀ a, a < 0 → ∀ b, b < 0 → a ≠ b → (TJ6 a).2.1 ≠ (TJ6 b).2.1 := by decide +kernel
theorem tyJ6_ok : ∀ k, k < 0 → parseFieldDescriptor (TJ6 k).2.2.1 = some (tyJ6 k) := by decide +kernel
abbrev cJ6_bitCount_0f7a4 : ByteArray := prog_13_method_49_code
def yJ6_bitCount_0f7a4 : MethodName := ⟨RJ6, "bitCount", "(I)I"⟩
def RJ9 : String := "java/lang/Math"
def TJ9 : u_T := fun k => match k with
  | _ => ("", "", "", false)
def tyJ9 : Nat → FieldType := fun k => match k with
  | _ => .int
theorem nmJ9 : ∀ a, a < 0 → ∀ b, b < 0 → a ≠ b → (TJ9 a).2.1 ≠ (TJ9 b).2.1 := by decide +kernel
theorem tyJ9_ok : ∀ k, k < 0 → parseFieldDescriptor (TJ9 k).2.2.1 = some (tyJ9 k) := by decide +kernel
abbrev cJ9_max_7cf53 : ByteArray := prog_14_method_65_code
def yJ9_max_7cf53 : MethodName := ⟨RJ9, "max", "(II)I"⟩
abbrev cJ9_min_7cf53 : ByteArray := prog_14_method_69_code
def yJ9_min_7cf53 : MethodName := ⟨RJ9, "min", "(II)I"⟩
def RJ0 : String := "java/lang/String"
def TJ0 : u_T := fun k => match k with
  | _ => ("", "", "", false)
def tyJ0 : Nat → FieldType := fun k => match k with
  | _ => .int
theorem nmJ0 : ∀ a, a < 0 → ∀ b, b < 0 → a ≠ b → (TJ0 a).2.1 ≠ (TJ0 b).2.1 := by decide +kernel
theorem tyJ0_ok : ∀ k, k < 0 → parseFieldDescriptor (TJ0 k).2.2.1 = some (tyJ0 k) := by decide +kernel
abbrev cJ0_length_8abf5 : ByteArray := prog_15_method_54_code
def yJ0_length_8abf5 : MethodName := ⟨RJ0, "length", "()I"⟩
abbrev cJ0_indexOf_0f7a4 : ByteArray := prog_15_method_79_code
def yJ0_indexOf_0f7a4 : MethodName := ⟨RJ0, "indexOf", "(I)I"⟩
abbrev cJ0_indexOf_7cf53 : ByteArray := prog_15_method_80_code
def yJ0_indexOf_7cf53 : MethodName := ⟨RJ0, "indexOf", "(II)I"⟩
abbrev cJ0_coder_7d493 : ByteArray := prog_15_method_152_code
def yJ0_coder_7d493 : MethodName := ⟨RJ0, "coder", "()B"⟩
abbrev cJ0_isLatin1_aae02 : ByteArray := prog_15_method_154_code
def yJ0_isLatin1_aae02 : MethodName := ⟨RJ0, "isLatin1", "()Z"⟩
abbrev cJ0_checkBoundsBeginEnd_23922 : ByteArray := prog_15_method_158_code
def yJ0_checkBoundsBeginEnd_23922 : MethodName := ⟨RJ0, "checkBoundsBeginEnd", "(III)V"⟩
def RJ1 : String := "java/lang/StringLatin1"
def TJ1 : u_T := fun k => match k with
  | _ => ("", "", "", false)
def tyJ1 : Nat → FieldType := fun k => match k with
  | _ => .int
theorem nmJ1 : ∀ a, a < 0 → ∀ b, b < 0 → a ≠ b → (TJ1 a).2.1 ≠ (TJ1 b).2.1 := by decide +kernel
theorem tyJ1_ok : ∀ k, k < 0 → parseFieldDescriptor (TJ1 k).2.2.1 = some (tyJ1 k) := by decide +kernel
abbrev cJ1_canEncode_9a6ad : ByteArray := prog_16_method_4_code
def yJ1_canEncode_9a6ad : MethodName := ⟨RJ1, "canEncode", "(I)Z"⟩
abbrev cJ1_indexOf_4cfef : ByteArray := prog_16_method_22_code
def yJ1_indexOf_4cfef : MethodName := ⟨RJ1, "indexOf", "([BIII)I"⟩
abbrev cJ1_indexOfChar_4cfef : ByteArray := prog_16_method_23_code
def yJ1_indexOfChar_4cfef : MethodName := ⟨RJ1, "indexOfChar", "([BIII)I"⟩
def RJ2 : String := "java/lang/StringUTF16"
def TJ2 : u_T := fun k => match k with
  | _ => ("", "", "", false)
def tyJ2 : Nat → FieldType := fun k => match k with
  | _ => .int
theorem nmJ2 : ∀ a, a < 0 → ∀ b, b < 0 → a ≠ b → (TJ2 a).2.1 ≠ (TJ2 b).2.1 := by decide +kernel
theorem tyJ2_ok : ∀ k, k < 0 → parseFieldDescriptor (TJ2 k).2.2.1 = some (tyJ2 k) := by decide +kernel
abbrev cJ2_getChar_3b067 : ByteArray := prog_17_method_5_code
def yJ2_getChar_3b067 : MethodName := ⟨RJ2, "getChar", "([BI)C"⟩
abbrev cJ2_length_9d52b : ByteArray := prog_17_method_6_code
def yJ2_length_9d52b : MethodName := ⟨RJ2, "length", "([B)I"⟩
abbrev cJ2_indexOf_4cfef : ByteArray := prog_17_method_40_code
def yJ2_indexOf_4cfef : MethodName := ⟨RJ2, "indexOf", "([BIII)I"⟩
abbrev cJ2_indexOfChar_4cfef : ByteArray := prog_17_method_47_code
def yJ2_indexOfChar_4cfef : MethodName := ⟨RJ2, "indexOfChar", "([BIII)I"⟩
abbrev cJ2_indexOfCharUnsafe_4cfef : ByteArray := prog_17_method_48_code
def yJ2_indexOfCharUnsafe_4cfef : MethodName := ⟨RJ2, "indexOfCharUnsafe", "([BIII)I"⟩
abbrev cJ2_indexOfSupplementary_4cfef : ByteArray := prog_17_method_49_code
def yJ2_indexOfSupplementary_4cfef : MethodName := ⟨RJ2, "indexOfSupplementary", "([BIII)I"⟩
abbrev cJ2_checkBoundsBeginEnd_d044e : ByteArray := prog_17_method_93_code
def yJ2_checkBoundsBeginEnd_d044e : MethodName := ⟨RJ2, "checkBoundsBeginEnd", "(II[B)V"⟩
def RJ10 : String := "java/lang/System"
def TJ10 : u_T := fun k => match k with
  | _ => ("", "", "", false)
def tyJ10 : Nat → FieldType := fun k => match k with
  | _ => .int
theorem nmJ10 : ∀ a, a < 0 → ∀ b, b < 0 → a ≠ b → (TJ10 a).2.1 ≠ (TJ10 b).2.1 := by decide +kernel
theorem tyJ10_ok : ∀ k, k < 0 → parseFieldDescriptor (TJ10 k).2.2.1 = some (tyJ10 k) := by decide +kernel
def RJxfd54e : String := "java/lang/constant/Constable"
def TJxfd54e : u_T := fun k => match k with
  | _ => ("", "", "", false)
def tyJxfd54e : Nat → FieldType := fun k => match k with
  | _ => .int
def RJx3cf43 : String := "java/lang/constant/ConstantDesc"
def TJx3cf43 : u_T := fun k => match k with
  | _ => ("", "", "", false)
def tyJx3cf43 : Nat → FieldType := fun k => match k with
  | _ => .int
def RJ7 : String := "java/util/Arrays"
def TJ7 : u_T := fun k => match k with
  | _ => ("", "", "", false)
def tyJ7 : Nat → FieldType := fun k => match k with
  | _ => .int
theorem nmJ7 : ∀ a, a < 0 → ∀ b, b < 0 → a ≠ b → (TJ7 a).2.1 ≠ (TJ7 b).2.1 := by decide +kernel
theorem tyJ7_ok : ∀ k, k < 0 → parseFieldDescriptor (TJ7 k).2.2.1 = some (tyJ7 k) := by decide +kernel
abbrev cJ7_fill_53178 : ByteArray := prog_19_method_103_code
def yJ7_fill_53178 : MethodName := ⟨RJ7, "fill", "([II)V"⟩
def RJ3 : String := "jdk/internal/util/Preconditions"
def TJ3 : u_T := fun k => match k with
  | _ => ("", "", "", false)
def tyJ3 : Nat → FieldType := fun k => match k with
  | _ => .int
theorem nmJ3 : ∀ a, a < 0 → ∀ b, b < 0 → a ≠ b → (TJ3 a).2.1 ≠ (TJ3 b).2.1 := by decide +kernel
theorem tyJ3_ok : ∀ k, k < 0 → parseFieldDescriptor (TJ3 k).2.2.1 = some (tyJ3 k) := by decide +kernel
abbrev cJ3_checkFromToIndex_8c36e : ByteArray := prog_20_method_12_code
def yJ3_checkFromToIndex_8c36e : MethodName := ⟨RJ3, "checkFromToIndex", "(IIILjava/util/function/BiFunction;)I"⟩
def RL : String := "TossRowsLaw"
abbrev cL_law : ByteArray := code
def yL_law : MethodName := ⟨RL, "law", "([I)Z"⟩
abbrev vwCl : List vw_C := [(RX0, TX0, 0), (RX1, TX1, 10), (RX2, TX2, 0), (RX3, TX3, 0), (RX4, TX4, 0), (RX5, TX5, 2), (RX6, TX6, 0), (RX7, TX7, 3), (RX8, TX8, 12), (RX9, TX9, 37)]
end
section
theorem dX0_init_0 : decode cX0_init 0 = .ok (.aload_n 0, 1) := by decide +kernel
theorem dX0_init_1 : decode cX0_init 1 = .ok (.invokespecial 1, 3) := by decide +kernel
theorem dX0_init_4 : decode cX0_init 4 = .ok (.return_, 1) := by decide +kernel
theorem dX0_rowsHitWith_0 : decode cX0_rowsHitWith 0 = .ok (.aload_n 0, 1) := by decide +kernel
theorem dX0_rowsHitWith_1 : decode cX0_rowsHitWith 1 = .ok (.iload_n 1, 1) := by decide +kernel
theorem dX0_rowsHitWith_2 : decode cX0_rowsHitWith 2 = .ok (.iload_n 2, 1) := by decide +kernel
theorem dX0_rowsHitWith_3 : decode cX0_rowsHitWith 3 = .ok (.invokespecial 7, 3) := by decide +kernel
theorem dX0_rowsHitWith_6 : decode cX0_rowsHitWith 6 = .ok (.iconst 1, 1) := by decide +kernel
theorem dX0_rowsHitWith_7 : decode cX0_rowsHitWith 7 = .ok (.iload_n 1, 1) := by decide +kernel
theorem dX0_rowsHitWith_8 : decode cX0_rowsHitWith 8 = .ok (.iload_n 2, 1) := by decide +kernel
theorem dX0_rowsHitWith_9 : decode cX0_rowsHitWith 9 = .ok (.invokestatic 11, 3) := by decide +kernel
theorem dX0_rowsHitWith_12 : decode cX0_rowsHitWith 12 = .ok (.ishl, 1) := by decide +kernel
theorem dX0_rowsHitWith_13 : decode cX0_rowsHitWith 13 = .ok (.ior, 1) := by decide +kernel
theorem dX0_rowsHitWith_14 : decode cX0_rowsHitWith 14 = .ok (.ireturn, 1) := by decide +kernel
theorem dX1_init_0 : decode cX1_init 0 = .ok (.aload_n 0, 1) := by decide +kernel
theorem dX1_init_1 : decode cX1_init 1 = .ok (.invokespecial 3, 3) := by decide +kernel
theorem dX1_init_4 : decode cX1_init 4 = .ok (.aload_n 0, 1) := by decide +kernel
theorem dX1_init_5 : decode cX1_init 5 = .ok (.iconst 4, 1) := by decide +kernel
theorem dX1_init_6 : decode cX1_init 6 = .ok (.newarray .int, 2) := by decide +kernel
theorem dX1_init_8 : decode cX1_init 8 = .ok (.putfield 9, 3) := by decide +kernel
theorem dX1_init_11 : decode cX1_init 11 = .ok (.aload_n 0, 1) := by decide +kernel
theorem dX1_init_12 : decode cX1_init 12 = .ok (.iconst 4, 1) := by decide +kernel
theorem dX1_init_13 : decode cX1_init 13 = .ok (.newarray .int, 2) := by decide +kernel
theorem dX1_init_15 : decode cX1_init 15 = .ok (.putfield 15, 3) := by decide +kernel
theorem dX1_init_18 : decode cX1_init 18 = .ok (.aload_n 0, 1) := by decide +kernel
theorem dX1_init_19 : decode cX1_init 19 = .ok (.iconst 4, 1) := by decide +kernel
theorem dX1_init_20 : decode cX1_init 20 = .ok (.newarray .int, 2) := by decide +kernel
theorem dX1_init_22 : decode cX1_init 22 = .ok (.putfield 18, 3) := by decide +kernel
theorem dX1_init_25 : decode cX1_init 25 = .ok (.aload_n 0, 1) := by decide +kernel
theorem dX1_init_26 : decode cX1_init 26 = .ok (.bipush 6, 2) := by decide +kernel
theorem dX1_init_28 : decode cX1_init 28 = .ok (.newarray .int, 2) := by decide +kernel
theorem dX1_init_30 : decode cX1_init 30 = .ok (.putfield 21, 3) := by decide +kernel
theorem dX1_init_33 : decode cX1_init 33 = .ok (.aload_n 0, 1) := by decide +kernel
theorem dX1_init_34 : decode cX1_init 34 = .ok (.bipush 6, 2) := by decide +kernel
theorem dX1_init_36 : decode cX1_init 36 = .ok (.newarray .int, 2) := by decide +kernel
theorem dX1_init_38 : decode cX1_init 38 = .ok (.putfield 24, 3) := by decide +kernel
theorem dX1_init_41 : decode cX1_init 41 = .ok (.aload_n 0, 1) := by decide +kernel
theorem dX1_init_42 : decode cX1_init 42 = .ok (.bipush 6, 2) := by decide +kernel
theorem dX1_init_44 : decode cX1_init 44 = .ok (.newarray .boolean, 2) := by decide +kernel
theorem dX1_init_46 : decode cX1_init 46 = .ok (.putfield 27, 3) := by decide +kernel
theorem dX1_init_49 : decode cX1_init 49 = .ok (.aload_n 0, 1) := by decide +kernel
theorem dX1_init_50 : decode cX1_init 50 = .ok (.iconst 1, 1) := by decide +kernel
theorem dX1_init_51 : decode cX1_init 51 = .ok (.putfield 31, 3) := by decide +kernel
theorem dX1_init_54 : decode cX1_init 54 = .ok (.return_, 1) := by decide +kernel
theorem dX1_clear_0 : decode cX1_clear 0 = .ok (.aload_n 0, 1) := by decide +kernel
theorem dX1_clear_1 : decode cX1_clear 1 = .ok (.getfield 18, 3) := by decide +kernel
theorem dX1_clear_4 : decode cX1_clear 4 = .ok (.iconst 0, 1) := by decide +kernel
theorem dX1_clear_5 : decode cX1_clear 5 = .ok (.invokestatic 35, 3) := by decide +kernel
theorem dX1_clear_8 : decode cX1_clear 8 = .ok (.aload_n 0, 1) := by decide +kernel
theorem dX1_clear_9 : decode cX1_clear 9 = .ok (.iconst 0, 1) := by decide +kernel
theorem dX1_clear_10 : decode cX1_clear 10 = .ok (.putfield 41, 3) := by decide +kernel
theorem dX1_clear_13 : decode cX1_clear 13 = .ok (.aload_n 0, 1) := by decide +kernel
theorem dX1_clear_14 : decode cX1_clear 14 = .ok (.iconst 0, 1) := by decide +kernel
theorem dX1_clear_15 : decode cX1_clear 15 = .ok (.putfield 44, 3) := by decide +kernel
theorem dX1_clear_18 : decode cX1_clear 18 = .ok (.aload_n 0, 1) := by decide +kernel
theorem dX1_clear_19 : decode cX1_clear 19 = .ok (.invokevirtual 47, 3) := by decide +kernel
theorem dX1_clear_22 : decode cX1_clear 22 = .ok (.return_, 1) := by decide +kernel
theorem dX1_beginGame_0 : decode cX1_beginGame 0 = .ok (.aload_n 0, 1) := by decide +kernel
theorem dX1_beginGame_1 : decode cX1_beginGame 1 = .ok (.iconst 0, 1) := by decide +kernel
theorem dX1_beginGame_2 : decode cX1_beginGame 2 = .ok (.putfield 50, 3) := by decide +kernel
theorem dX1_beginGame_5 : decode cX1_beginGame 5 = .ok (.aload_n 0, 1) := by decide +kernel
theorem dX1_beginGame_6 : decode cX1_beginGame 6 = .ok (.iconst 1, 1) := by decide +kernel
theorem dX1_beginGame_7 : decode cX1_beginGame 7 = .ok (.putfield 31, 3) := by decide +kernel
theorem dX1_beginGame_10 : decode cX1_beginGame 10 = .ok (.return_, 1) := by decide +kernel
theorem dX1_addSeen_0 : decode cX1_addSeen 0 = .ok (.aload_n 0, 1) := by decide +kernel
theorem dX1_addSeen_1 : decode cX1_addSeen 1 = .ok (.getfield 41, 3) := by decide +kernel
theorem dX1_addSeen_4 : decode cX1_addSeen 4 = .ok (.ifCond .lt 52, 3) := by decide +kernel
theorem dX1_addSeen_7 : decode cX1_addSeen 7 = .ok (.aload_n 0, 1) := by decide +kernel
theorem dX1_addSeen_8 : decode cX1_addSeen 8 = .ok (.getfield 41, 3) := by decide +kernel
theorem dX1_addSeen_11 : decode cX1_addSeen 11 = .ok (.bipush 6, 2) := by decide +kernel
theorem dX1_addSeen_13 : decode cX1_addSeen 13 = .ok (.if_icmp .ge 43, 3) := by decide +kernel
theorem dX1_addSeen_16 : decode cX1_addSeen 16 = .ok (.aload_n 0, 1) := by decide +kernel
theorem dX1_addSeen_17 : decode cX1_addSeen 17 = .ok (.getfield 21, 3) := by decide +kernel
theorem dX1_addSeen_20 : decode cX1_addSeen 20 = .ok (.aload_n 0, 1) := by decide +kernel
theorem dX1_addSeen_21 : decode cX1_addSeen 21 = .ok (.getfield 41, 3) := by decide +kernel
theorem dX1_addSeen_24 : decode cX1_addSeen 24 = .ok (.iload_n 1, 1) := by decide +kernel
theorem dX1_addSeen_25 : decode cX1_addSeen 25 = .ok (.iastore, 1) := by decide +kernel
theorem dX1_addSeen_26 : decode cX1_addSeen 26 = .ok (.aload_n 0, 1) := by decide +kernel
theorem dX1_addSeen_27 : decode cX1_addSeen 27 = .ok (.getfield 24, 3) := by decide +kernel
theorem dX1_addSeen_30 : decode cX1_addSeen 30 = .ok (.aload_n 0, 1) := by decide +kernel
theorem dX1_addSeen_31 : decode cX1_addSeen 31 = .ok (.getfield 41, 3) := by decide +kernel
theorem dX1_addSeen_34 : decode cX1_addSeen 34 = .ok (.iload_n 2, 1) := by decide +kernel
theorem dX1_addSeen_35 : decode cX1_addSeen 35 = .ok (.iastore, 1) := by decide +kernel
theorem dX1_addSeen_36 : decode cX1_addSeen 36 = .ok (.aload_n 0, 1) := by decide +kernel
theorem dX1_addSeen_37 : decode cX1_addSeen 37 = .ok (.getfield 27, 3) := by decide +kernel
theorem dX1_addSeen_40 : decode cX1_addSeen 40 = .ok (.aload_n 0, 1) := by decide +kernel
theorem dX1_addSeen_41 : decode cX1_addSeen 41 = .ok (.getfield 41, 3) := by decide +kernel
theorem dX1_addSeen_44 : decode cX1_addSeen 44 = .ok (.iload_n 3, 1) := by decide +kernel
theorem dX1_addSeen_45 : decode cX1_addSeen 45 = .ok (.bastore, 1) := by decide +kernel
theorem dX1_addSeen_46 : decode cX1_addSeen 46 = .ok (.aload_n 0, 1) := by decide +kernel
theorem dX1_addSeen_47 : decode cX1_addSeen 47 = .ok (.dup, 1) := by decide +kernel
theorem dX1_addSeen_48 : decode cX1_addSeen 48 = .ok (.getfield 41, 3) := by decide +kernel
theorem dX1_addSeen_51 : decode cX1_addSeen 51 = .ok (.iconst 1, 1) := by decide +kernel
theorem dX1_addSeen_52 : decode cX1_addSeen 52 = .ok (.iadd, 1) := by decide +kernel
theorem dX1_addSeen_53 : decode cX1_addSeen 53 = .ok (.putfield 41, 3) := by decide +kernel
theorem dX1_addSeen_56 : decode cX1_addSeen 56 = .ok (.return_, 1) := by decide +kernel
theorem dX1_wonByAll_0 : decode cX1_wonByAll 0 = .ok (.iconst 0, 1) := by decide +kernel
theorem dX1_wonByAll_1 : decode cX1_wonByAll 1 = .ok (.istore_n 1, 1) := by decide +kernel
theorem dX1_wonByAll_2 : decode cX1_wonByAll 2 = .ok (.iconst 0, 1) := by decide +kernel
theorem dX1_wonByAll_3 : decode cX1_wonByAll 3 = .ok (.istore_n 2, 1) := by decide +kernel
theorem dX1_wonByAll_4 : decode cX1_wonByAll 4 = .ok (.iload_n 2, 1) := by decide +kernel
theorem dX1_wonByAll_5 : decode cX1_wonByAll 5 = .ok (.aload_n 0, 1) := by decide +kernel
theorem dX1_wonByAll_6 : decode cX1_wonByAll 6 = .ok (.getfield 18, 3) := by decide +kernel
theorem dX1_wonByAll_9 : decode cX1_wonByAll 9 = .ok (.arraylength, 1) := by decide +kernel
theorem dX1_wonByAll_10 : decode cX1_wonByAll 10 = .ok (.if_icmp .ge 18, 3) := by decide +kernel
theorem dX1_wonByAll_13 : decode cX1_wonByAll 13 = .ok (.iload_n 1, 1) := by decide +kernel
theorem dX1_wonByAll_14 : decode cX1_wonByAll 14 = .ok (.aload_n 0, 1) := by decide +kernel
theorem dX1_wonByAll_15 : decode cX1_wonByAll 15 = .ok (.getfield 18, 3) := by decide +kernel
theorem dX1_wonByAll_18 : decode cX1_wonByAll 18 = .ok (.iload_n 2, 1) := by decide +kernel
theorem dX1_wonByAll_19 : decode cX1_wonByAll 19 = .ok (.iaload, 1) := by decide +kernel
theorem dX1_wonByAll_20 : decode cX1_wonByAll 20 = .ok (.iadd, 1) := by decide +kernel
theorem dX1_wonByAll_21 : decode cX1_wonByAll 21 = .ok (.istore_n 1, 1) := by decide +kernel
theorem dX1_wonByAll_22 : decode cX1_wonByAll 22 = .ok (.iinc 2 1, 3) := by decide +kernel
theorem dX1_wonByAll_25 : decode cX1_wonByAll 25 = .ok (.goto (-21), 3) := by decide +kernel
theorem dX1_wonByAll_28 : decode cX1_wonByAll 28 = .ok (.iload_n 1, 1) := by decide +kernel
theorem dX1_wonByAll_29 : decode cX1_wonByAll 29 = .ok (.ireturn, 1) := by decide +kernel
theorem dX1_take_0 : decode cX1_take 0 = .ok (.aload_n 1, 1) := by decide +kernel
theorem dX1_take_1 : decode cX1_take 1 = .ok (.ifnonnull 4, 3) := by decide +kernel
theorem dX1_take_4 : decode cX1_take 4 = .ok (.return_, 1) := by decide +kernel
theorem dX1_take_5 : decode cX1_take 5 = .ok (.aload_n 1, 1) := by decide +kernel
theorem dX1_take_6 : decode cX1_take 6 = .ok (.getfield 9, 3) := by decide +kernel
theorem dX1_take_9 : decode cX1_take 9 = .ok (.iconst 0, 1) := by decide +kernel
theorem dX1_take_10 : decode cX1_take 10 = .ok (.aload_n 0, 1) := by decide +kernel
theorem dX1_take_11 : decode cX1_take 11 = .ok (.getfield 9, 3) := by decide +kernel
theorem dX1_take_14 : decode cX1_take 14 = .ok (.iconst 0, 1) := by decide +kernel
theorem dX1_take_15 : decode cX1_take 15 = .ok (.iconst 4, 1) := by decide +kernel
theorem dX1_take_16 : decode cX1_take 16 = .ok (.invokestatic 53, 3) := by decide +kernel
theorem dX1_take_19 : decode cX1_take 19 = .ok (.aload_n 1, 1) := by decide +kernel
theorem dX1_take_20 : decode cX1_take 20 = .ok (.getfield 15, 3) := by decide +kernel
theorem dX1_take_23 : decode cX1_take 23 = .ok (.iconst 0, 1) := by decide +kernel
theorem dX1_take_24 : decode cX1_take 24 = .ok (.aload_n 0, 1) := by decide +kernel
theorem dX1_take_25 : decode cX1_take 25 = .ok (.getfield 15, 3) := by decide +kernel
theorem dX1_take_28 : decode cX1_take 28 = .ok (.iconst 0, 1) := by decide +kernel
theorem dX1_take_29 : decode cX1_take 29 = .ok (.iconst 4, 1) := by decide +kernel
theorem dX1_take_30 : decode cX1_take 30 = .ok (.invokestatic 53, 3) := by decide +kernel
theorem dX1_take_33 : decode cX1_take 33 = .ok (.aload_n 1, 1) := by decide +kernel
theorem dX1_take_34 : decode cX1_take 34 = .ok (.getfield 18, 3) := by decide +kernel
theorem dX1_take_37 : decode cX1_take 37 = .ok (.iconst 0, 1) := by decide +kernel
theorem dX1_take_38 : decode cX1_take 38 = .ok (.aload_n 0, 1) := by decide +kernel
theorem dX1_take_39 : decode cX1_take 39 = .ok (.getfield 18, 3) := by decide +kernel
theorem dX1_take_42 : decode cX1_take 42 = .ok (.iconst 0, 1) := by decide +kernel
theorem dX1_take_43 : decode cX1_take 43 = .ok (.iconst 4, 1) := by decide +kernel
theorem dX1_take_44 : decode cX1_take 44 = .ok (.invokestatic 53, 3) := by decide +kernel
theorem dX1_take_47 : decode cX1_take 47 = .ok (.aload_n 1, 1) := by decide +kernel
theorem dX1_take_48 : decode cX1_take 48 = .ok (.getfield 21, 3) := by decide +kernel
theorem dX1_take_51 : decode cX1_take 51 = .ok (.iconst 0, 1) := by decide +kernel
theorem dX1_take_52 : decode cX1_take 52 = .ok (.aload_n 0, 1) := by decide +kernel
theorem dX1_take_53 : decode cX1_take 53 = .ok (.getfield 21, 3) := by decide +kernel
theorem dX1_take_56 : decode cX1_take 56 = .ok (.iconst 0, 1) := by decide +kernel
theorem dX1_take_57 : decode cX1_take 57 = .ok (.bipush 6, 2) := by decide +kernel
theorem dX1_take_59 : decode cX1_take 59 = .ok (.invokestatic 53, 3) := by decide +kernel
theorem dX1_take_62 : decode cX1_take 62 = .ok (.aload_n 1, 1) := by decide +kernel
theorem dX1_take_63 : decode cX1_take 63 = .ok (.getfield 24, 3) := by decide +kernel
theorem dX1_take_66 : decode cX1_take 66 = .ok (.iconst 0, 1) := by decide +kernel
theorem dX1_take_67 : decode cX1_take 67 = .ok (.aload_n 0, 1) := by decide +kernel
theorem dX1_take_68 : decode cX1_take 68 = .ok (.getfield 24, 3) := by decide +kernel
theorem dX1_take_71 : decode cX1_take 71 = .ok (.iconst 0, 1) := by decide +kernel
theorem dX1_take_72 : decode cX1_take 72 = .ok (.bipush 6, 2) := by decide +kernel
theorem dX1_take_74 : decode cX1_take 74 = .ok (.invokestatic 53, 3) := by decide +kernel
theorem dX1_take_77 : decode cX1_take 77 = .ok (.iconst 0, 1) := by decide +kernel
theorem dX1_take_78 : decode cX1_take 78 = .ok (.istore_n 2, 1) := by decide +kernel
theorem dX1_take_79 : decode cX1_take 79 = .ok (.iload_n 2, 1) := by decide +kernel
theorem dX1_take_80 : decode cX1_take 80 = .ok (.bipush 6, 2) := by decide +kernel
theorem dX1_take_82 : decode cX1_take 82 = .ok (.if_icmp .ge 21, 3) := by decide +kernel
theorem dX1_take_85 : decode cX1_take 85 = .ok (.aload_n 0, 1) := by decide +kernel
theorem dX1_take_86 : decode cX1_take 86 = .ok (.getfield 27, 3) := by decide +kernel
theorem dX1_take_89 : decode cX1_take 89 = .ok (.iload_n 2, 1) := by decide +kernel
theorem dX1_take_90 : decode cX1_take 90 = .ok (.aload_n 1, 1) := by decide +kernel
theorem dX1_take_91 : decode cX1_take 91 = .ok (.getfield 27, 3) := by decide +kernel
theorem dX1_take_94 : decode cX1_take 94 = .ok (.iload_n 2, 1) := by decide +kernel
theorem dX1_take_95 : decode cX1_take 95 = .ok (.baload, 1) := by decide +kernel
theorem dX1_take_96 : decode cX1_take 96 = .ok (.bastore, 1) := by decide +kernel
theorem dX1_take_97 : decode cX1_take 97 = .ok (.iinc 2 1, 3) := by decide +kernel
theorem dX1_take_100 : decode cX1_take 100 = .ok (.goto (-21), 3) := by decide +kernel
theorem dX1_take_103 : decode cX1_take 103 = .ok (.aload_n 0, 1) := by decide +kernel
theorem dX1_take_104 : decode cX1_take 104 = .ok (.aload_n 1, 1) := by decide +kernel
theorem dX1_take_105 : decode cX1_take 105 = .ok (.getfield 41, 3) := by decide +kernel
theorem dX1_take_108 : decode cX1_take 108 = .ok (.putfield 41, 3) := by decide +kernel
theorem dX1_take_111 : decode cX1_take 111 = .ok (.aload_n 0, 1) := by decide +kernel
theorem dX1_take_112 : decode cX1_take 112 = .ok (.aload_n 1, 1) := by decide +kernel
theorem dX1_take_113 : decode cX1_take 113 = .ok (.getfield 44, 3) := by decide +kernel
theorem dX1_take_116 : decode cX1_take 116 = .ok (.putfield 44, 3) := by decide +kernel
theorem dX1_take_119 : decode cX1_take 119 = .ok (.aload_n 0, 1) := by decide +kernel
theorem dX1_take_120 : decode cX1_take 120 = .ok (.aload_n 1, 1) := by decide +kernel
theorem dX1_take_121 : decode cX1_take 121 = .ok (.getfield 50, 3) := by decide +kernel
theorem dX1_take_124 : decode cX1_take 124 = .ok (.putfield 50, 3) := by decide +kernel
theorem dX1_take_127 : decode cX1_take 127 = .ok (.aload_n 0, 1) := by decide +kernel
theorem dX1_take_128 : decode cX1_take 128 = .ok (.aload_n 1, 1) := by decide +kernel
theorem dX1_take_129 : decode cX1_take 129 = .ok (.getfield 31, 3) := by decide +kernel
theorem dX1_take_132 : decode cX1_take 132 = .ok (.putfield 31, 3) := by decide +kernel
theorem dX1_take_135 : decode cX1_take 135 = .ok (.return_, 1) := by decide +kernel
theorem dX2_init_0 : decode cX2_init 0 = .ok (.aload_n 0, 1) := by decide +kernel
theorem dX2_init_1 : decode cX2_init 1 = .ok (.invokespecial 1, 3) := by decide +kernel
theorem dX2_init_4 : decode cX2_init 4 = .ok (.return_, 1) := by decide +kernel
theorem dX2_rowsHitWith_0 : decode cX2_rowsHitWith 0 = .ok (.iconst 1, 1) := by decide +kernel
theorem dX2_rowsHitWith_1 : decode cX2_rowsHitWith 1 = .ok (.iload_n 1, 1) := by decide +kernel
theorem dX2_rowsHitWith_2 : decode cX2_rowsHitWith 2 = .ok (.ishl, 1) := by decide +kernel
theorem dX2_rowsHitWith_3 : decode cX2_rowsHitWith 3 = .ok (.iconst 1, 1) := by decide +kernel
theorem dX2_rowsHitWith_4 : decode cX2_rowsHitWith 4 = .ok (.iload_n 1, 1) := by decide +kernel
theorem dX2_rowsHitWith_5 : decode cX2_rowsHitWith 5 = .ok (.iload_n 2, 1) := by decide +kernel
theorem dX2_rowsHitWith_6 : decode cX2_rowsHitWith 6 = .ok (.invokestatic 7, 3) := by decide +kernel
theorem dX2_rowsHitWith_9 : decode cX2_rowsHitWith 9 = .ok (.ishl, 1) := by decide +kernel
theorem dX2_rowsHitWith_10 : decode cX2_rowsHitWith 10 = .ok (.ior, 1) := by decide +kernel
theorem dX2_rowsHitWith_11 : decode cX2_rowsHitWith 11 = .ok (.ireturn, 1) := by decide +kernel
theorem dX3_init_0 : decode cX3_init 0 = .ok (.aload_n 0, 1) := by decide +kernel
theorem dX3_init_1 : decode cX3_init 1 = .ok (.invokespecial 1, 3) := by decide +kernel
theorem dX3_init_4 : decode cX3_init 4 = .ok (.return_, 1) := by decide +kernel
theorem dX3_rowsHitWith_0 : decode cX3_rowsHitWith 0 = .ok (.iconst 1, 1) := by decide +kernel
theorem dX3_rowsHitWith_1 : decode cX3_rowsHitWith 1 = .ok (.iload_n 1, 1) := by decide +kernel
theorem dX3_rowsHitWith_2 : decode cX3_rowsHitWith 2 = .ok (.iload_n 2, 1) := by decide +kernel
theorem dX3_rowsHitWith_3 : decode cX3_rowsHitWith 3 = .ok (.invokestatic 7, 3) := by decide +kernel
theorem dX3_rowsHitWith_6 : decode cX3_rowsHitWith 6 = .ok (.ishl, 1) := by decide +kernel
theorem dX3_rowsHitWith_7 : decode cX3_rowsHitWith 7 = .ok (.ireturn, 1) := by decide +kernel
theorem dX4_init_0 : decode cX4_init 0 = .ok (.aload_n 0, 1) := by decide +kernel
theorem dX4_init_1 : decode cX4_init 1 = .ok (.invokespecial 1, 3) := by decide +kernel
theorem dX4_init_4 : decode cX4_init 4 = .ok (.return_, 1) := by decide +kernel
theorem dX4_rowsHitWith_0 : decode cX4_rowsHitWith 0 = .ok (.iconst 1, 1) := by decide +kernel
theorem dX4_rowsHitWith_1 : decode cX4_rowsHitWith 1 = .ok (.iload_n 1, 1) := by decide +kernel
theorem dX4_rowsHitWith_2 : decode cX4_rowsHitWith 2 = .ok (.iload_n 2, 1) := by decide +kernel
theorem dX4_rowsHitWith_3 : decode cX4_rowsHitWith 3 = .ok (.invokestatic 7, 3) := by decide +kernel
theorem dX4_rowsHitWith_6 : decode cX4_rowsHitWith 6 = .ok (.ishl, 1) := by decide +kernel
theorem dX4_rowsHitWith_7 : decode cX4_rowsHitWith 7 = .ok (.ireturn, 1) := by decide +kernel
theorem dX5_init_0 : decode cX5_init 0 = .ok (.aload_n 0, 1) := by decide +kernel
theorem dX5_init_1 : decode cX5_init 1 = .ok (.invokespecial 3, 3) := by decide +kernel
theorem dX5_init_4 : decode cX5_init 4 = .ok (.aload_n 0, 1) := by decide +kernel
theorem dX5_init_5 : decode cX5_init 5 = .ok (.bipush 28, 2) := by decide +kernel
theorem dX5_init_7 : decode cX5_init 7 = .ok (.newarray .char, 2) := by decide +kernel
theorem dX5_init_9 : decode cX5_init 9 = .ok (.putfield 11, 3) := by decide +kernel
theorem dX5_init_12 : decode cX5_init 12 = .ok (.return_, 1) := by decide +kernel
theorem dX5_length_0 : decode cX5_length 0 = .ok (.aload_n 0, 1) := by decide +kernel
theorem dX5_length_1 : decode cX5_length 1 = .ok (.getfield 15, 3) := by decide +kernel
theorem dX5_length_4 : decode cX5_length 4 = .ok (.ireturn, 1) := by decide +kernel
theorem dX5_isFull_0 : decode cX5_isFull 0 = .ok (.aload_n 0, 1) := by decide +kernel
theorem dX5_isFull_1 : decode cX5_isFull 1 = .ok (.getfield 15, 3) := by decide +kernel
theorem dX5_isFull_4 : decode cX5_isFull 4 = .ok (.bipush 28, 2) := by decide +kernel
theorem dX5_isFull_6 : decode cX5_isFull 6 = .ok (.if_icmp .lt 7, 3) := by decide +kernel
theorem dX5_isFull_9 : decode cX5_isFull 9 = .ok (.iconst 1, 1) := by decide +kernel
theorem dX5_isFull_10 : decode cX5_isFull 10 = .ok (.goto 4, 3) := by decide +kernel
theorem dX5_isFull_13 : decode cX5_isFull 13 = .ok (.iconst 0, 1) := by decide +kernel
theorem dX5_isFull_14 : decode cX5_isFull 14 = .ok (.ireturn, 1) := by decide +kernel
theorem dX5_append_0 : decode cX5_append 0 = .ok (.aload_n 0, 1) := by decide +kernel
theorem dX5_append_1 : decode cX5_append 1 = .ok (.getfield 15, 3) := by decide +kernel
theorem dX5_append_4 : decode cX5_append 4 = .ok (.bipush 28, 2) := by decide +kernel
theorem dX5_append_6 : decode cX5_append 6 = .ok (.if_icmp .ge 23, 3) := by decide +kernel
theorem dX5_append_9 : decode cX5_append 9 = .ok (.aload_n 0, 1) := by decide +kernel
theorem dX5_append_10 : decode cX5_append 10 = .ok (.getfield 11, 3) := by decide +kernel
theorem dX5_append_13 : decode cX5_append 13 = .ok (.aload_n 0, 1) := by decide +kernel
theorem dX5_append_14 : decode cX5_append 14 = .ok (.getfield 15, 3) := by decide +kernel
theorem dX5_append_17 : decode cX5_append 17 = .ok (.iload_n 1, 1) := by decide +kernel
theorem dX5_append_18 : decode cX5_append 18 = .ok (.castore, 1) := by decide +kernel
theorem dX5_append_19 : decode cX5_append 19 = .ok (.aload_n 0, 1) := by decide +kernel
theorem dX5_append_20 : decode cX5_append 20 = .ok (.dup, 1) := by decide +kernel
theorem dX5_append_21 : decode cX5_append 21 = .ok (.getfield 15, 3) := by decide +kernel
theorem dX5_append_24 : decode cX5_append 24 = .ok (.iconst 1, 1) := by decide +kernel
theorem dX5_append_25 : decode cX5_append 25 = .ok (.iadd, 1) := by decide +kernel
theorem dX5_append_26 : decode cX5_append 26 = .ok (.putfield 15, 3) := by decide +kernel
theorem dX5_append_29 : decode cX5_append 29 = .ok (.return_, 1) := by decide +kernel
theorem dX5_clear_0 : decode cX5_clear 0 = .ok (.aload_n 0, 1) := by decide +kernel
theorem dX5_clear_1 : decode cX5_clear 1 = .ok (.iconst 0, 1) := by decide +kernel
theorem dX5_clear_2 : decode cX5_clear 2 = .ok (.putfield 15, 3) := by decide +kernel
theorem dX5_clear_5 : decode cX5_clear 5 = .ok (.return_, 1) := by decide +kernel
theorem dX5_at_0 : decode cX5_at 0 = .ok (.iload_n 1, 1) := by decide +kernel
theorem dX5_at_1 : decode cX5_at 1 = .ok (.ifCond .lt 20, 3) := by decide +kernel
theorem dX5_at_4 : decode cX5_at 4 = .ok (.iload_n 1, 1) := by decide +kernel
theorem dX5_at_5 : decode cX5_at 5 = .ok (.aload_n 0, 1) := by decide +kernel
theorem dX5_at_6 : decode cX5_at 6 = .ok (.getfield 15, 3) := by decide +kernel
theorem dX5_at_9 : decode cX5_at 9 = .ok (.if_icmp .ge 12, 3) := by decide +kernel
theorem dX5_at_12 : decode cX5_at 12 = .ok (.aload_n 0, 1) := by decide +kernel
theorem dX5_at_13 : decode cX5_at 13 = .ok (.getfield 11, 3) := by decide +kernel
theorem dX5_at_16 : decode cX5_at 16 = .ok (.iload_n 1, 1) := by decide +kernel
theorem dX5_at_17 : decode cX5_at 17 = .ok (.caload, 1) := by decide +kernel
theorem dX5_at_18 : decode cX5_at 18 = .ok (.goto 5, 3) := by decide +kernel
theorem dX5_at_21 : decode cX5_at 21 = .ok (.bipush 32, 2) := by decide +kernel
theorem dX5_at_23 : decode cX5_at 23 = .ok (.ireturn, 1) := by decide +kernel
theorem dX5_size_0 : decode cX5_size 0 = .ok (.aload_n 0, 1) := by decide +kernel
theorem dX5_size_1 : decode cX5_size 1 = .ok (.iconst 0, 1) := by decide +kernel
theorem dX5_size_2 : decode cX5_size 2 = .ok (.invokevirtual 19, 3) := by decide +kernel
theorem dX5_size_5 : decode cX5_size 5 = .ok (.bipush 48, 2) := by decide +kernel
theorem dX5_size_7 : decode cX5_size 7 = .ok (.isub, 1) := by decide +kernel
theorem dX5_size_8 : decode cX5_size 8 = .ok (.istore_n 1, 1) := by decide +kernel
theorem dX5_size_9 : decode cX5_size 9 = .ok (.iload_n 1, 1) := by decide +kernel
theorem dX5_size_10 : decode cX5_size 10 = .ok (.iconst 2, 1) := by decide +kernel
theorem dX5_size_11 : decode cX5_size 11 = .ok (.if_icmp .lt 12, 3) := by decide +kernel
theorem dX5_size_14 : decode cX5_size 14 = .ok (.iload_n 1, 1) := by decide +kernel
theorem dX5_size_15 : decode cX5_size 15 = .ok (.iconst 4, 1) := by decide +kernel
theorem dX5_size_16 : decode cX5_size 16 = .ok (.if_icmp .gt 7, 3) := by decide +kernel
theorem dX5_size_19 : decode cX5_size 19 = .ok (.iload_n 1, 1) := by decide +kernel
theorem dX5_size_20 : decode cX5_size 20 = .ok (.goto 4, 3) := by decide +kernel
theorem dX5_size_23 : decode cX5_size 23 = .ok (.iconst 0, 1) := by decide +kernel
theorem dX5_size_24 : decode cX5_size 24 = .ok (.ireturn, 1) := by decide +kernel
theorem dX5_firstWrong_0 : decode cX5_firstWrong 0 = .ok (.iconst 0, 1) := by decide +kernel
theorem dX5_firstWrong_1 : decode cX5_firstWrong 1 = .ok (.istore_n 1, 1) := by decide +kernel
theorem dX5_firstWrong_2 : decode cX5_firstWrong 2 = .ok (.iload_n 1, 1) := by decide +kernel
theorem dX5_firstWrong_3 : decode cX5_firstWrong 3 = .ok (.aload_n 0, 1) := by decide +kernel
theorem dX5_firstWrong_4 : decode cX5_firstWrong 4 = .ok (.getfield 15, 3) := by decide +kernel
theorem dX5_firstWrong_7 : decode cX5_firstWrong 7 = .ok (.if_icmp .ge 19, 3) := by decide +kernel
theorem dX5_firstWrong_10 : decode cX5_firstWrong 10 = .ok (.aload_n 0, 1) := by decide +kernel
theorem dX5_firstWrong_11 : decode cX5_firstWrong 11 = .ok (.iload_n 1, 1) := by decide +kernel
theorem dX5_firstWrong_12 : decode cX5_firstWrong 12 = .ok (.invokevirtual 23, 3) := by decide +kernel
theorem dX5_firstWrong_15 : decode cX5_firstWrong 15 = .ok (.ifCond .ne 5, 3) := by decide +kernel
theorem dX5_firstWrong_18 : decode cX5_firstWrong 18 = .ok (.iload_n 1, 1) := by decide +kernel
theorem dX5_firstWrong_19 : decode cX5_firstWrong 19 = .ok (.ireturn, 1) := by decide +kernel
theorem dX5_firstWrong_20 : decode cX5_firstWrong 20 = .ok (.iinc 1 1, 3) := by decide +kernel
theorem dX5_firstWrong_23 : decode cX5_firstWrong 23 = .ok (.goto (-21), 3) := by decide +kernel
theorem dX5_firstWrong_26 : decode cX5_firstWrong 26 = .ok (.aload_n 0, 1) := by decide +kernel
theorem dX5_firstWrong_27 : decode cX5_firstWrong 27 = .ok (.getfield 15, 3) := by decide +kernel
theorem dX5_firstWrong_30 : decode cX5_firstWrong 30 = .ok (.ireturn, 1) := by decide +kernel
theorem dX5_playersOfTable_0 : decode cX5_playersOfTable 0 = .ok (.aload_n 0, 1) := by decide +kernel
theorem dX5_playersOfTable_1 : decode cX5_playersOfTable 1 = .ok (.invokevirtual 27, 3) := by decide +kernel
theorem dX5_playersOfTable_4 : decode cX5_playersOfTable 4 = .ok (.ifCond .eq 14, 3) := by decide +kernel
theorem dX5_playersOfTable_7 : decode cX5_playersOfTable 7 = .ok (.aload_n 0, 1) := by decide +kernel
theorem dX5_playersOfTable_8 : decode cX5_playersOfTable 8 = .ok (.invokevirtual 31, 3) := by decide +kernel
theorem dX5_playersOfTable_11 : decode cX5_playersOfTable 11 = .ok (.aload_n 0, 1) := by decide +kernel
theorem dX5_playersOfTable_12 : decode cX5_playersOfTable 12 = .ok (.getfield 15, 3) := by decide +kernel
theorem dX5_playersOfTable_15 : decode cX5_playersOfTable 15 = .ok (.if_icmp .ge 5, 3) := by decide +kernel
theorem dX5_playersOfTable_18 : decode cX5_playersOfTable 18 = .ok (.iconst 0, 1) := by decide +kernel
theorem dX5_playersOfTable_19 : decode cX5_playersOfTable 19 = .ok (.ireturn, 1) := by decide +kernel
theorem dX5_playersOfTable_20 : decode cX5_playersOfTable 20 = .ok (.aload_n 0, 1) := by decide +kernel
theorem dX5_playersOfTable_21 : decode cX5_playersOfTable 21 = .ok (.getfield 15, 3) := by decide +kernel
theorem dX5_playersOfTable_24 : decode cX5_playersOfTable 24 = .ok (.iconst 1, 1) := by decide +kernel
theorem dX5_playersOfTable_25 : decode cX5_playersOfTable 25 = .ok (.iadd, 1) := by decide +kernel
theorem dX5_playersOfTable_26 : decode cX5_playersOfTable 26 = .ok (.iconst 2, 1) := by decide +kernel
theorem dX5_playersOfTable_27 : decode cX5_playersOfTable 27 = .ok (.isub, 1) := by decide +kernel
theorem dX5_playersOfTable_28 : decode cX5_playersOfTable 28 = .ok (.istore_n 1, 1) := by decide +kernel
theorem dX5_playersOfTable_29 : decode cX5_playersOfTable 29 = .ok (.iload_n 1, 1) := by decide +kernel
theorem dX5_playersOfTable_30 : decode cX5_playersOfTable 30 = .ok (.aload_n 0, 1) := by decide +kernel
theorem dX5_playersOfTable_31 : decode cX5_playersOfTable 31 = .ok (.invokevirtual 34, 3) := by decide +kernel
theorem dX5_playersOfTable_34 : decode cX5_playersOfTable 34 = .ok (.idiv, 1) := by decide +kernel
theorem dX5_playersOfTable_35 : decode cX5_playersOfTable 35 = .ok (.istore_n 2, 1) := by decide +kernel
theorem dX5_playersOfTable_36 : decode cX5_playersOfTable 36 = .ok (.iload_n 1, 1) := by decide +kernel
theorem dX5_playersOfTable_37 : decode cX5_playersOfTable 37 = .ok (.aload_n 0, 1) := by decide +kernel
theorem dX5_playersOfTable_38 : decode cX5_playersOfTable 38 = .ok (.invokevirtual 34, 3) := by decide +kernel
theorem dX5_playersOfTable_41 : decode cX5_playersOfTable 41 = .ok (.irem, 1) := by decide +kernel
theorem dX5_playersOfTable_42 : decode cX5_playersOfTable 42 = .ok (.ifCond .ne 12, 3) := by decide +kernel
theorem dX5_playersOfTable_45 : decode cX5_playersOfTable 45 = .ok (.iload_n 2, 1) := by decide +kernel
theorem dX5_playersOfTable_46 : decode cX5_playersOfTable 46 = .ok (.iconst 2, 1) := by decide +kernel
theorem dX5_playersOfTable_47 : decode cX5_playersOfTable 47 = .ok (.if_icmp .lt 7, 3) := by decide +kernel
theorem dX5_playersOfTable_50 : decode cX5_playersOfTable 50 = .ok (.iload_n 2, 1) := by decide +kernel
theorem dX5_playersOfTable_51 : decode cX5_playersOfTable 51 = .ok (.goto 4, 3) := by decide +kernel
theorem dX5_playersOfTable_54 : decode cX5_playersOfTable 54 = .ok (.iconst 0, 1) := by decide +kernel
theorem dX5_playersOfTable_55 : decode cX5_playersOfTable 55 = .ok (.ireturn, 1) := by decide +kernel
theorem dX5_kindOf_0 : decode cX5_kindOf 0 = .ok (.ldc 37, 2) := by decide +kernel
theorem dX5_kindOf_2 : decode cX5_kindOf 2 = .ok (.aload_n 0, 1) := by decide +kernel
theorem dX5_kindOf_3 : decode cX5_kindOf 3 = .ok (.aload_n 0, 1) := by decide +kernel
theorem dX5_kindOf_4 : decode cX5_kindOf 4 = .ok (.iload_n 1, 1) := by decide +kernel
theorem dX5_kindOf_5 : decode cX5_kindOf 5 = .ok (.invokevirtual 39, 3) := by decide +kernel
theorem dX5_kindOf_8 : decode cX5_kindOf 8 = .ok (.invokevirtual 19, 3) := by decide +kernel
theorem dX5_kindOf_11 : decode cX5_kindOf 11 = .ok (.invokevirtual 43, 3) := by decide +kernel
theorem dX5_kindOf_14 : decode cX5_kindOf 14 = .ok (.iconst 0, 1) := by decide +kernel
theorem dX5_kindOf_15 : decode cX5_kindOf 15 = .ok (.invokestatic 48, 3) := by decide +kernel
theorem dX5_kindOf_18 : decode cX5_kindOf 18 = .ok (.ireturn, 1) := by decide +kernel
theorem dX5_rowOf_0 : decode cX5_rowOf 0 = .ok (.iconst 0, 1) := by decide +kernel
theorem dX5_rowOf_1 : decode cX5_rowOf 1 = .ok (.istore_n 2, 1) := by decide +kernel
theorem dX5_rowOf_2 : decode cX5_rowOf 2 = .ok (.iconst 1, 1) := by decide +kernel
theorem dX5_rowOf_3 : decode cX5_rowOf 3 = .ok (.istore_n 3, 1) := by decide +kernel
theorem dX5_rowOf_4 : decode cX5_rowOf 4 = .ok (.iload_n 3, 1) := by decide +kernel
theorem dX5_rowOf_5 : decode cX5_rowOf 5 = .ok (.aload_n 0, 1) := by decide +kernel
theorem dX5_rowOf_6 : decode cX5_rowOf 6 = .ok (.invokevirtual 27, 3) := by decide +kernel
theorem dX5_rowOf_9 : decode cX5_rowOf 9 = .ok (.if_icmp .gt 35, 3) := by decide +kernel
theorem dX5_rowOf_12 : decode cX5_rowOf 12 = .ok (.iconst 2, 1) := by decide +kernel
theorem dX5_rowOf_13 : decode cX5_rowOf 13 = .ok (.iload_n 2, 1) := by decide +kernel
theorem dX5_rowOf_14 : decode cX5_rowOf 14 = .ok (.imul, 1) := by decide +kernel
theorem dX5_rowOf_15 : decode cX5_rowOf 15 = .ok (.aload_n 0, 1) := by decide +kernel
theorem dX5_rowOf_16 : decode cX5_rowOf 16 = .ok (.aload_n 0, 1) := by decide +kernel
theorem dX5_rowOf_17 : decode cX5_rowOf 17 = .ok (.iload_n 1, 1) := by decide +kernel
theorem dX5_rowOf_18 : decode cX5_rowOf 18 = .ok (.invokevirtual 39, 3) := by decide +kernel
theorem dX5_rowOf_21 : decode cX5_rowOf 21 = .ok (.iload_n 3, 1) := by decide +kernel
theorem dX5_rowOf_22 : decode cX5_rowOf 22 = .ok (.iadd, 1) := by decide +kernel
theorem dX5_rowOf_23 : decode cX5_rowOf 23 = .ok (.invokevirtual 19, 3) := by decide +kernel
theorem dX5_rowOf_26 : decode cX5_rowOf 26 = .ok (.bipush 116, 2) := by decide +kernel
theorem dX5_rowOf_28 : decode cX5_rowOf 28 = .ok (.if_icmp .ne 7, 3) := by decide +kernel
theorem dX5_rowOf_31 : decode cX5_rowOf 31 = .ok (.iconst 1, 1) := by decide +kernel
theorem dX5_rowOf_32 : decode cX5_rowOf 32 = .ok (.goto 4, 3) := by decide +kernel
theorem dX5_rowOf_35 : decode cX5_rowOf 35 = .ok (.iconst 0, 1) := by decide +kernel
theorem dX5_rowOf_36 : decode cX5_rowOf 36 = .ok (.iadd, 1) := by decide +kernel
theorem dX5_rowOf_37 : decode cX5_rowOf 37 = .ok (.istore_n 2, 1) := by decide +kernel
theorem dX5_rowOf_38 : decode cX5_rowOf 38 = .ok (.iinc 3 1, 3) := by decide +kernel
theorem dX5_rowOf_41 : decode cX5_rowOf 41 = .ok (.goto (-37), 3) := by decide +kernel
theorem dX5_rowOf_44 : decode cX5_rowOf 44 = .ok (.iload_n 2, 1) := by decide +kernel
theorem dX5_rowOf_45 : decode cX5_rowOf 45 = .ok (.ireturn, 1) := by decide +kernel
theorem dX5_placeOf_0 : decode cX5_placeOf 0 = .ok (.iconst 2, 1) := by decide +kernel
theorem dX5_placeOf_1 : decode cX5_placeOf 1 = .ok (.iload_n 1, 1) := by decide +kernel
theorem dX5_placeOf_2 : decode cX5_placeOf 2 = .ok (.aload_n 0, 1) := by decide +kernel
theorem dX5_placeOf_3 : decode cX5_placeOf 3 = .ok (.invokevirtual 34, 3) := by decide +kernel
theorem dX5_placeOf_6 : decode cX5_placeOf 6 = .ok (.imul, 1) := by decide +kernel
theorem dX5_placeOf_7 : decode cX5_placeOf 7 = .ok (.iadd, 1) := by decide +kernel
theorem dX5_placeOf_8 : decode cX5_placeOf 8 = .ok (.ireturn, 1) := by decide +kernel
theorem dX5_step_0 : decode cX5_step 0 = .ok (.aload_n 0, 1) := by decide +kernel
theorem dX5_step_1 : decode cX5_step 1 = .ok (.invokevirtual 27, 3) := by decide +kernel
theorem dX5_step_4 : decode cX5_step 4 = .ok (.iconst 2, 1) := by decide +kernel
theorem dX5_step_5 : decode cX5_step 5 = .ok (.iadd, 1) := by decide +kernel
theorem dX5_step_6 : decode cX5_step 6 = .ok (.ireturn, 1) := by decide +kernel
theorem dX5_canStand_0 : decode cX5_canStand 0 = .ok (.aload_n 0, 1) := by decide +kernel
theorem dX5_canStand_1 : decode cX5_canStand 1 = .ok (.invokevirtual 27, 3) := by decide +kernel
theorem dX5_canStand_4 : decode cX5_canStand 4 = .ok (.ifCond .ne 5, 3) := by decide +kernel
theorem dX5_canStand_7 : decode cX5_canStand 7 = .ok (.iconst 0, 1) := by decide +kernel
theorem dX5_canStand_8 : decode cX5_canStand 8 = .ok (.ireturn, 1) := by decide +kernel
theorem dX5_canStand_9 : decode cX5_canStand 9 = .ok (.iload_n 1, 1) := by decide +kernel
theorem dX5_canStand_10 : decode cX5_canStand 10 = .ok (.iconst 2, 1) := by decide +kernel
theorem dX5_canStand_11 : decode cX5_canStand 11 = .ok (.if_icmp .ge 23, 3) := by decide +kernel
theorem dX5_canStand_14 : decode cX5_canStand 14 = .ok (.iload_n 1, 1) := by decide +kernel
theorem dX5_canStand_15 : decode cX5_canStand 15 = .ok (.ifCond .eq 13, 3) := by decide +kernel
theorem dX5_canStand_18 : decode cX5_canStand 18 = .ok (.aload_n 0, 1) := by decide +kernel
theorem dX5_canStand_19 : decode cX5_canStand 19 = .ok (.iload_n 1, 1) := by decide +kernel
theorem dX5_canStand_20 : decode cX5_canStand 20 = .ok (.invokevirtual 19, 3) := by decide +kernel
theorem dX5_canStand_23 : decode cX5_canStand 23 = .ok (.bipush 59, 2) := by decide +kernel
theorem dX5_canStand_25 : decode cX5_canStand 25 = .ok (.if_icmp .ne 7, 3) := by decide +kernel
theorem dX5_canStand_28 : decode cX5_canStand 28 = .ok (.iconst 1, 1) := by decide +kernel
theorem dX5_canStand_29 : decode cX5_canStand 29 = .ok (.goto 4, 3) := by decide +kernel
theorem dX5_canStand_32 : decode cX5_canStand 32 = .ok (.iconst 0, 1) := by decide +kernel
theorem dX5_canStand_33 : decode cX5_canStand 33 = .ok (.ireturn, 1) := by decide +kernel
theorem dX5_canStand_34 : decode cX5_canStand 34 = .ok (.iload_n 1, 1) := by decide +kernel
theorem dX5_canStand_35 : decode cX5_canStand 35 = .ok (.iconst 2, 1) := by decide +kernel
theorem dX5_canStand_36 : decode cX5_canStand 36 = .ok (.isub, 1) := by decide +kernel
theorem dX5_canStand_37 : decode cX5_canStand 37 = .ok (.aload_n 0, 1) := by decide +kernel
theorem dX5_canStand_38 : decode cX5_canStand 38 = .ok (.invokevirtual 34, 3) := by decide +kernel
theorem dX5_canStand_41 : decode cX5_canStand 41 = .ok (.idiv, 1) := by decide +kernel
theorem dX5_canStand_42 : decode cX5_canStand 42 = .ok (.istore_n 2, 1) := by decide +kernel
theorem dX5_canStand_43 : decode cX5_canStand 43 = .ok (.iload_n 1, 1) := by decide +kernel
theorem dX5_canStand_44 : decode cX5_canStand 44 = .ok (.iconst 2, 1) := by decide +kernel
theorem dX5_canStand_45 : decode cX5_canStand 45 = .ok (.isub, 1) := by decide +kernel
theorem dX5_canStand_46 : decode cX5_canStand 46 = .ok (.aload_n 0, 1) := by decide +kernel
theorem dX5_canStand_47 : decode cX5_canStand 47 = .ok (.invokevirtual 34, 3) := by decide +kernel
theorem dX5_canStand_50 : decode cX5_canStand 50 = .ok (.irem, 1) := by decide +kernel
theorem dX5_canStand_51 : decode cX5_canStand 51 = .ok (.istore_n 3, 1) := by decide +kernel
theorem dX5_canStand_52 : decode cX5_canStand 52 = .ok (.iload_n 3, 1) := by decide +kernel
theorem dX5_canStand_53 : decode cX5_canStand 53 = .ok (.ifCond .ne 22, 3) := by decide +kernel
theorem dX5_canStand_56 : decode cX5_canStand 56 = .ok (.ldc 37, 2) := by decide +kernel
theorem dX5_canStand_58 : decode cX5_canStand 58 = .ok (.aload_n 0, 1) := by decide +kernel
theorem dX5_canStand_59 : decode cX5_canStand 59 = .ok (.iload_n 1, 1) := by decide +kernel
theorem dX5_canStand_60 : decode cX5_canStand 60 = .ok (.invokevirtual 19, 3) := by decide +kernel
theorem dX5_canStand_63 : decode cX5_canStand 63 = .ok (.invokevirtual 43, 3) := by decide +kernel
theorem dX5_canStand_66 : decode cX5_canStand 66 = .ok (.ifCond .lt 7, 3) := by decide +kernel
theorem dX5_canStand_69 : decode cX5_canStand 69 = .ok (.iconst 1, 1) := by decide +kernel
theorem dX5_canStand_70 : decode cX5_canStand 70 = .ok (.goto 4, 3) := by decide +kernel
theorem dX5_canStand_73 : decode cX5_canStand 73 = .ok (.iconst 0, 1) := by decide +kernel
theorem dX5_canStand_74 : decode cX5_canStand 74 = .ok (.ireturn, 1) := by decide +kernel
theorem dX5_canStand_75 : decode cX5_canStand 75 = .ok (.iload_n 3, 1) := by decide +kernel
theorem dX5_canStand_76 : decode cX5_canStand 76 = .ok (.aload_n 0, 1) := by decide +kernel
theorem dX5_canStand_77 : decode cX5_canStand 77 = .ok (.invokevirtual 27, 3) := by decide +kernel
theorem dX5_canStand_80 : decode cX5_canStand 80 = .ok (.if_icmp .gt 29, 3) := by decide +kernel
theorem dX5_canStand_83 : decode cX5_canStand 83 = .ok (.aload_n 0, 1) := by decide +kernel
theorem dX5_canStand_84 : decode cX5_canStand 84 = .ok (.iload_n 1, 1) := by decide +kernel
theorem dX5_canStand_85 : decode cX5_canStand 85 = .ok (.invokevirtual 19, 3) := by decide +kernel
theorem dX5_canStand_88 : decode cX5_canStand 88 = .ok (.bipush 104, 2) := by decide +kernel
theorem dX5_canStand_90 : decode cX5_canStand 90 = .ok (.if_icmp .eq 13, 3) := by decide +kernel
theorem dX5_canStand_93 : decode cX5_canStand 93 = .ok (.aload_n 0, 1) := by decide +kernel
theorem dX5_canStand_94 : decode cX5_canStand 94 = .ok (.iload_n 1, 1) := by decide +kernel
theorem dX5_canStand_95 : decode cX5_canStand 95 = .ok (.invokevirtual 19, 3) := by decide +kernel
theorem dX5_canStand_98 : decode cX5_canStand 98 = .ok (.bipush 116, 2) := by decide +kernel
theorem dX5_canStand_100 : decode cX5_canStand 100 = .ok (.if_icmp .ne 7, 3) := by decide +kernel
theorem dX5_canStand_103 : decode cX5_canStand 103 = .ok (.iconst 1, 1) := by decide +kernel
theorem dX5_canStand_104 : decode cX5_canStand 104 = .ok (.goto 4, 3) := by decide +kernel
theorem dX5_canStand_107 : decode cX5_canStand 107 = .ok (.iconst 0, 1) := by decide +kernel
theorem dX5_canStand_108 : decode cX5_canStand 108 = .ok (.ireturn, 1) := by decide +kernel
theorem dX5_canStand_109 : decode cX5_canStand 109 = .ok (.aload_n 0, 1) := by decide +kernel
theorem dX5_canStand_110 : decode cX5_canStand 110 = .ok (.iload_n 1, 1) := by decide +kernel
theorem dX5_canStand_111 : decode cX5_canStand 111 = .ok (.invokevirtual 19, 3) := by decide +kernel
theorem dX5_canStand_114 : decode cX5_canStand 114 = .ok (.bipush 44, 2) := by decide +kernel
theorem dX5_canStand_116 : decode cX5_canStand 116 = .ok (.if_icmp .ne 14, 3) := by decide +kernel
theorem dX5_canStand_119 : decode cX5_canStand 119 = .ok (.iload_n 2, 1) := by decide +kernel
theorem dX5_canStand_120 : decode cX5_canStand 120 = .ok (.iconst 1, 1) := by decide +kernel
theorem dX5_canStand_121 : decode cX5_canStand 121 = .ok (.iadd, 1) := by decide +kernel
theorem dX5_canStand_122 : decode cX5_canStand 122 = .ok (.iconst 4, 1) := by decide +kernel
theorem dX5_canStand_123 : decode cX5_canStand 123 = .ok (.if_icmp .ge 7, 3) := by decide +kernel
theorem dX5_canStand_126 : decode cX5_canStand 126 = .ok (.iconst 1, 1) := by decide +kernel
theorem dX5_canStand_127 : decode cX5_canStand 127 = .ok (.goto 4, 3) := by decide +kernel
theorem dX5_canStand_130 : decode cX5_canStand 130 = .ok (.iconst 0, 1) := by decide +kernel
theorem dX5_canStand_131 : decode cX5_canStand 131 = .ok (.ireturn, 1) := by decide +kernel
theorem dX6_init_0 : decode cX6_init 0 = .ok (.aload_n 0, 1) := by decide +kernel
theorem dX6_init_1 : decode cX6_init 1 = .ok (.invokespecial 1, 3) := by decide +kernel
theorem dX6_init_4 : decode cX6_init 4 = .ok (.return_, 1) := by decide +kernel
theorem dX6_rowsHitWith_0 : decode cX6_rowsHitWith 0 = .ok (.iconst 1, 1) := by decide +kernel
theorem dX6_rowsHitWith_1 : decode cX6_rowsHitWith 1 = .ok (.iload_n 1, 1) := by decide +kernel
theorem dX6_rowsHitWith_2 : decode cX6_rowsHitWith 2 = .ok (.ishl, 1) := by decide +kernel
theorem dX6_rowsHitWith_3 : decode cX6_rowsHitWith 3 = .ok (.ireturn, 1) := by decide +kernel
theorem dX7_init_0 : decode cX7_init 0 = .ok (.aload_n 0, 1) := by decide +kernel
theorem dX7_init_1 : decode cX7_init 1 = .ok (.invokespecial 3, 3) := by decide +kernel
theorem dX7_init_4 : decode cX7_init 4 = .ok (.aload_n 0, 1) := by decide +kernel
theorem dX7_init_5 : decode cX7_init 5 = .ok (.bipush 6, 2) := by decide +kernel
theorem dX7_init_7 : decode cX7_init 7 = .ok (.newarray .int, 2) := by decide +kernel
theorem dX7_init_9 : decode cX7_init 9 = .ok (.putfield 11, 3) := by decide +kernel
theorem dX7_init_12 : decode cX7_init 12 = .ok (.aload_n 0, 1) := by decide +kernel
theorem dX7_init_13 : decode cX7_init 13 = .ok (.bipush 6, 2) := by decide +kernel
theorem dX7_init_15 : decode cX7_init 15 = .ok (.bipush 7, 2) := by decide +kernel
theorem dX7_init_17 : decode cX7_init 17 = .ok (.multianewarray 15 2, 4) := by decide +kernel
theorem dX7_init_21 : decode cX7_init 21 = .ok (.putfield 17, 3) := by decide +kernel
theorem dX7_init_24 : decode cX7_init 24 = .ok (.return_, 1) := by decide +kernel
theorem dX7_waitFor_0 : decode cX7_waitFor 0 = .ok (.aload_n 0, 1) := by decide +kernel
theorem dX7_waitFor_1 : decode cX7_waitFor 1 = .ok (.iload_n 1, 1) := by decide +kernel
theorem dX7_waitFor_2 : decode cX7_waitFor 2 = .ok (.iload_n 2, 1) := by decide +kernel
theorem dX7_waitFor_3 : decode cX7_waitFor 3 = .ok (.invokevirtual 20, 3) := by decide +kernel
theorem dX7_waitFor_6 : decode cX7_waitFor 6 = .ok (.lstore_n 3, 1) := by decide +kernel
theorem dX7_waitFor_7 : decode cX7_waitFor 7 = .ok (.aload_n 0, 1) := by decide +kernel
theorem dX7_waitFor_8 : decode cX7_waitFor 8 = .ok (.iload_n 1, 1) := by decide +kernel
theorem dX7_waitFor_9 : decode cX7_waitFor 9 = .ok (.invokevirtual 24, 3) := by decide +kernel
theorem dX7_waitFor_12 : decode cX7_waitFor 12 = .ok (.lstore 5, 2) := by decide +kernel
theorem dX7_waitFor_14 : decode cX7_waitFor 14 = .ok (.lload 5, 2) := by decide +kernel
theorem dX7_waitFor_16 : decode cX7_waitFor 16 = .ok (.lconst 0, 1) := by decide +kernel
theorem dX7_waitFor_17 : decode cX7_waitFor 17 = .ok (.lcmp, 1) := by decide +kernel
theorem dX7_waitFor_18 : decode cX7_waitFor 18 = .ok (.ifCond .ne 7, 3) := by decide +kernel
theorem dX7_waitFor_21 : decode cX7_waitFor 21 = .ok (.iconst 0, 1) := by decide +kernel
theorem dX7_waitFor_22 : decode cX7_waitFor 22 = .ok (.goto 12, 3) := by decide +kernel
theorem dX7_waitFor_25 : decode cX7_waitFor 25 = .ok (.ldc2_w 28, 3) := by decide +kernel
theorem dX7_waitFor_28 : decode cX7_waitFor 28 = .ok (.lload_n 3, 1) := by decide +kernel
theorem dX7_waitFor_29 : decode cX7_waitFor 29 = .ok (.lmul, 1) := by decide +kernel
theorem dX7_waitFor_30 : decode cX7_waitFor 30 = .ok (.lload 5, 2) := by decide +kernel
theorem dX7_waitFor_32 : decode cX7_waitFor 32 = .ok (.ldiv, 1) := by decide +kernel
theorem dX7_waitFor_33 : decode cX7_waitFor 33 = .ok (.l2i, 1) := by decide +kernel
theorem dX7_waitFor_34 : decode cX7_waitFor 34 = .ok (.ireturn, 1) := by decide +kernel
theorem dX7_chance_0 : decode cX7_chance 0 = .ok (.aload_n 0, 1) := by decide +kernel
theorem dX7_chance_1 : decode cX7_chance 1 = .ok (.iload_n 1, 1) := by decide +kernel
theorem dX7_chance_2 : decode cX7_chance 2 = .ok (.iload_n 2, 1) := by decide +kernel
theorem dX7_chance_3 : decode cX7_chance 3 = .ok (.ior, 1) := by decide +kernel
theorem dX7_chance_4 : decode cX7_chance 4 = .ok (.iload_n 3, 1) := by decide +kernel
theorem dX7_chance_5 : decode cX7_chance 5 = .ok (.invokevirtual 20, 3) := by decide +kernel
theorem dX7_chance_8 : decode cX7_chance 8 = .ok (.pop2, 1) := by decide +kernel
theorem dX7_chance_9 : decode cX7_chance 9 = .ok (.aload_n 0, 1) := by decide +kernel
theorem dX7_chance_10 : decode cX7_chance 10 = .ok (.iload_n 1, 1) := by decide +kernel
theorem dX7_chance_11 : decode cX7_chance 11 = .ok (.iload_n 2, 1) := by decide +kernel
theorem dX7_chance_12 : decode cX7_chance 12 = .ok (.ior, 1) := by decide +kernel
theorem dX7_chance_13 : decode cX7_chance 13 = .ok (.invokevirtual 24, 3) := by decide +kernel
theorem dX7_chance_16 : decode cX7_chance 16 = .ok (.lstore 4, 2) := by decide +kernel
theorem dX7_chance_18 : decode cX7_chance 18 = .ok (.lload 4, 2) := by decide +kernel
theorem dX7_chance_20 : decode cX7_chance 20 = .ok (.lconst 0, 1) := by decide +kernel
theorem dX7_chance_21 : decode cX7_chance 21 = .ok (.lcmp, 1) := by decide +kernel
theorem dX7_chance_22 : decode cX7_chance 22 = .ok (.ifCond .ne 7, 3) := by decide +kernel
theorem dX7_chance_25 : decode cX7_chance 25 = .ok (.iconst 0, 1) := by decide +kernel
theorem dX7_chance_26 : decode cX7_chance 26 = .ok (.goto 16, 3) := by decide +kernel
theorem dX7_chance_29 : decode cX7_chance 29 = .ok (.ldc2_w 30, 3) := by decide +kernel
theorem dX7_chance_32 : decode cX7_chance 32 = .ok (.aload_n 0, 1) := by decide +kernel
theorem dX7_chance_33 : decode cX7_chance 33 = .ok (.iload_n 1, 1) := by decide +kernel
theorem dX7_chance_34 : decode cX7_chance 34 = .ok (.invokevirtual 24, 3) := by decide +kernel
theorem dX7_chance_37 : decode cX7_chance 37 = .ok (.lmul, 1) := by decide +kernel
theorem dX7_chance_38 : decode cX7_chance 38 = .ok (.lload 4, 2) := by decide +kernel
theorem dX7_chance_40 : decode cX7_chance 40 = .ok (.ldiv, 1) := by decide +kernel
theorem dX7_chance_41 : decode cX7_chance 41 = .ok (.l2i, 1) := by decide +kernel
theorem dX7_chance_42 : decode cX7_chance 42 = .ok (.ireturn, 1) := by decide +kernel
theorem dX7_run_0 : decode cX7_run 0 = .ok (.aload_n 0, 1) := by decide +kernel
theorem dX7_run_1 : decode cX7_run 1 = .ok (.iload_n 1, 1) := by decide +kernel
theorem dX7_run_2 : decode cX7_run 2 = .ok (.iload_n 2, 1) := by decide +kernel
theorem dX7_run_3 : decode cX7_run 3 = .ok (.invokevirtual 32, 3) := by decide +kernel
theorem dX7_run_6 : decode cX7_run 6 = .ok (.aload_n 0, 1) := by decide +kernel
theorem dX7_run_7 : decode cX7_run 7 = .ok (.iload_n 2, 1) := by decide +kernel
theorem dX7_run_8 : decode cX7_run 8 = .ok (.invokevirtual 36, 3) := by decide +kernel
theorem dX7_run_11 : decode cX7_run 11 = .ok (.lconst 1, 1) := by decide +kernel
theorem dX7_run_12 : decode cX7_run 12 = .ok (.lstore_n 3, 1) := by decide +kernel
theorem dX7_run_13 : decode cX7_run 13 = .ok (.iconst 0, 1) := by decide +kernel
theorem dX7_run_14 : decode cX7_run 14 = .ok (.istore 5, 2) := by decide +kernel
theorem dX7_run_16 : decode cX7_run 16 = .ok (.iload 5, 2) := by decide +kernel
theorem dX7_run_18 : decode cX7_run 18 = .ok (.aload_n 0, 1) := by decide +kernel
theorem dX7_run_19 : decode cX7_run 19 = .ok (.getfield 40, 3) := by decide +kernel
theorem dX7_run_22 : decode cX7_run 22 = .ok (.if_icmp .ge 85, 3) := by decide +kernel
theorem dX7_run_25 : decode cX7_run 25 = .ok (.aload_n 0, 1) := by decide +kernel
theorem dX7_run_26 : decode cX7_run 26 = .ok (.getfield 17, 3) := by decide +kernel
theorem dX7_run_29 : decode cX7_run 29 = .ok (.iload 5, 2) := by decide +kernel
theorem dX7_run_31 : decode cX7_run 31 = .ok (.aaload, 1) := by decide +kernel
theorem dX7_run_32 : decode cX7_run 32 = .ok (.iload 5, 2) := by decide +kernel
theorem dX7_run_34 : decode cX7_run 34 = .ok (.laload, 1) := by decide +kernel
theorem dX7_run_35 : decode cX7_run 35 = .ok (.lstore 6, 2) := by decide +kernel
theorem dX7_run_37 : decode cX7_run 37 = .ok (.lload_n 3, 1) := by decide +kernel
theorem dX7_run_38 : decode cX7_run 38 = .ok (.lconst 0, 1) := by decide +kernel
theorem dX7_run_39 : decode cX7_run 39 = .ok (.lcmp, 1) := by decide +kernel
theorem dX7_run_40 : decode cX7_run 40 = .ok (.ifCond .eq 10, 3) := by decide +kernel
theorem dX7_run_43 : decode cX7_run 43 = .ok (.lload 6, 2) := by decide +kernel
theorem dX7_run_45 : decode cX7_run 45 = .ok (.lconst 0, 1) := by decide +kernel
theorem dX7_run_46 : decode cX7_run 46 = .ok (.lcmp, 1) := by decide +kernel
theorem dX7_run_47 : decode cX7_run 47 = .ok (.ifCond .ne 5, 3) := by decide +kernel
theorem dX7_run_50 : decode cX7_run 50 = .ok (.lconst 0, 1) := by decide +kernel
theorem dX7_run_51 : decode cX7_run 51 = .ok (.lreturn, 1) := by decide +kernel
theorem dX7_run_52 : decode cX7_run 52 = .ok (.iconst 0, 1) := by decide +kernel
theorem dX7_run_53 : decode cX7_run 53 = .ok (.istore 8, 2) := by decide +kernel
theorem dX7_run_55 : decode cX7_run 55 = .ok (.iload 8, 2) := by decide +kernel
theorem dX7_run_57 : decode cX7_run 57 = .ok (.aload_n 0, 1) := by decide +kernel
theorem dX7_run_58 : decode cX7_run 58 = .ok (.getfield 40, 3) := by decide +kernel
theorem dX7_run_61 : decode cX7_run 61 = .ok (.if_icmp .ge 37, 3) := by decide +kernel
theorem dX7_run_64 : decode cX7_run 64 = .ok (.iload 8, 2) := by decide +kernel
theorem dX7_run_66 : decode cX7_run 66 = .ok (.iload 5, 2) := by decide +kernel
theorem dX7_run_68 : decode cX7_run 68 = .ok (.if_icmp .eq 24, 3) := by decide +kernel
theorem dX7_run_71 : decode cX7_run 71 = .ok (.aload_n 0, 1) := by decide +kernel
theorem dX7_run_72 : decode cX7_run 72 = .ok (.aload_n 0, 1) := by decide +kernel
theorem dX7_run_73 : decode cX7_run 73 = .ok (.getfield 17, 3) := by decide +kernel
theorem dX7_run_76 : decode cX7_run 76 = .ok (.iload 8, 2) := by decide +kernel
theorem dX7_run_78 : decode cX7_run 78 = .ok (.aaload, 1) := by decide +kernel
theorem dX7_run_79 : decode cX7_run 79 = .ok (.aload_n 0, 1) := by decide +kernel
theorem dX7_run_80 : decode cX7_run 80 = .ok (.getfield 17, 3) := by decide +kernel
theorem dX7_run_83 : decode cX7_run 83 = .ok (.iload 5, 2) := by decide +kernel
theorem dX7_run_85 : decode cX7_run 85 = .ok (.aaload, 1) := by decide +kernel
theorem dX7_run_86 : decode cX7_run 86 = .ok (.iload 5, 2) := by decide +kernel
theorem dX7_run_88 : decode cX7_run 88 = .ok (.lload_n 3, 1) := by decide +kernel
theorem dX7_run_89 : decode cX7_run 89 = .ok (.invokevirtual 44, 3) := by decide +kernel
theorem dX7_run_92 : decode cX7_run 92 = .ok (.iinc 8 1, 3) := by decide +kernel
theorem dX7_run_95 : decode cX7_run 95 = .ok (.goto (-40), 3) := by decide +kernel
theorem dX7_run_98 : decode cX7_run 98 = .ok (.lload 6, 2) := by decide +kernel
theorem dX7_run_100 : decode cX7_run 100 = .ok (.lstore_n 3, 1) := by decide +kernel
theorem dX7_run_101 : decode cX7_run 101 = .ok (.iinc 5 1, 3) := by decide +kernel
theorem dX7_run_104 : decode cX7_run 104 = .ok (.goto (-88), 3) := by decide +kernel
theorem dX7_run_107 : decode cX7_run 107 = .ok (.lload_n 3, 1) := by decide +kernel
theorem dX7_run_108 : decode cX7_run 108 = .ok (.lreturn, 1) := by decide +kernel
theorem dX7_eliminate_0 : decode cX7_eliminate 0 = .ok (.aload_n 2, 1) := by decide +kernel
theorem dX7_eliminate_1 : decode cX7_eliminate 1 = .ok (.iload_n 3, 1) := by decide +kernel
theorem dX7_eliminate_2 : decode cX7_eliminate 2 = .ok (.laload, 1) := by decide +kernel
theorem dX7_eliminate_3 : decode cX7_eliminate 3 = .ok (.lstore 6, 2) := by decide +kernel
theorem dX7_eliminate_5 : decode cX7_eliminate 5 = .ok (.aload_n 1, 1) := by decide +kernel
theorem dX7_eliminate_6 : decode cX7_eliminate 6 = .ok (.iload_n 3, 1) := by decide +kernel
theorem dX7_eliminate_7 : decode cX7_eliminate 7 = .ok (.laload, 1) := by decide +kernel
theorem dX7_eliminate_8 : decode cX7_eliminate 8 = .ok (.lstore 8, 2) := by decide +kernel
theorem dX7_eliminate_10 : decode cX7_eliminate 10 = .ok (.iconst 0, 1) := by decide +kernel
theorem dX7_eliminate_11 : decode cX7_eliminate 11 = .ok (.istore 10, 2) := by decide +kernel
theorem dX7_eliminate_13 : decode cX7_eliminate 13 = .ok (.iload 10, 2) := by decide +kernel
theorem dX7_eliminate_15 : decode cX7_eliminate 15 = .ok (.aload_n 0, 1) := by decide +kernel
theorem dX7_eliminate_16 : decode cX7_eliminate 16 = .ok (.getfield 40, 3) := by decide +kernel
theorem dX7_eliminate_19 : decode cX7_eliminate 19 = .ok (.if_icmp .gt 38, 3) := by decide +kernel
theorem dX7_eliminate_22 : decode cX7_eliminate 22 = .ok (.lload 4, 2) := by decide +kernel
theorem dX7_eliminate_24 : decode cX7_eliminate 24 = .ok (.lconst 0, 1) := by decide +kernel
theorem dX7_eliminate_25 : decode cX7_eliminate 25 = .ok (.lcmp, 1) := by decide +kernel
theorem dX7_eliminate_26 : decode cX7_eliminate 26 = .ok (.ifCond .eq 31, 3) := by decide +kernel
theorem dX7_eliminate_29 : decode cX7_eliminate 29 = .ok (.aload_n 1, 1) := by decide +kernel
theorem dX7_eliminate_30 : decode cX7_eliminate 30 = .ok (.iload 10, 2) := by decide +kernel
theorem dX7_eliminate_32 : decode cX7_eliminate 32 = .ok (.lload 6, 2) := by decide +kernel
theorem dX7_eliminate_34 : decode cX7_eliminate 34 = .ok (.aload_n 1, 1) := by decide +kernel
theorem dX7_eliminate_35 : decode cX7_eliminate 35 = .ok (.iload 10, 2) := by decide +kernel
theorem dX7_eliminate_37 : decode cX7_eliminate 37 = .ok (.laload, 1) := by decide +kernel
theorem dX7_eliminate_38 : decode cX7_eliminate 38 = .ok (.lmul, 1) := by decide +kernel
theorem dX7_eliminate_39 : decode cX7_eliminate 39 = .ok (.lload 8, 2) := by decide +kernel
theorem dX7_eliminate_41 : decode cX7_eliminate 41 = .ok (.aload_n 2, 1) := by decide +kernel
theorem dX7_eliminate_42 : decode cX7_eliminate 42 = .ok (.iload 10, 2) := by decide +kernel
theorem dX7_eliminate_44 : decode cX7_eliminate 44 = .ok (.laload, 1) := by decide +kernel
theorem dX7_eliminate_45 : decode cX7_eliminate 45 = .ok (.lmul, 1) := by decide +kernel
theorem dX7_eliminate_46 : decode cX7_eliminate 46 = .ok (.lsub, 1) := by decide +kernel
theorem dX7_eliminate_47 : decode cX7_eliminate 47 = .ok (.lload 4, 2) := by decide +kernel
theorem dX7_eliminate_49 : decode cX7_eliminate 49 = .ok (.ldiv, 1) := by decide +kernel
theorem dX7_eliminate_50 : decode cX7_eliminate 50 = .ok (.lastore, 1) := by decide +kernel
theorem dX7_eliminate_51 : decode cX7_eliminate 51 = .ok (.iinc 10 1, 3) := by decide +kernel
theorem dX7_eliminate_54 : decode cX7_eliminate 54 = .ok (.goto (-41), 3) := by decide +kernel
theorem dX7_eliminate_57 : decode cX7_eliminate 57 = .ok (.return_, 1) := by decide +kernel
theorem dX7_setRows_0 : decode cX7_setRows 0 = .ok (.aload_n 0, 1) := by decide +kernel
theorem dX7_setRows_1 : decode cX7_setRows 1 = .ok (.iconst 0, 1) := by decide +kernel
theorem dX7_setRows_2 : decode cX7_setRows 2 = .ok (.putfield 40, 3) := by decide +kernel
theorem dX7_setRows_5 : decode cX7_setRows 5 = .ok (.iconst 0, 1) := by decide +kernel
theorem dX7_setRows_6 : decode cX7_setRows 6 = .ok (.istore_n 3, 1) := by decide +kernel
theorem dX7_setRows_7 : decode cX7_setRows 7 = .ok (.iload_n 3, 1) := by decide +kernel
theorem dX7_setRows_8 : decode cX7_setRows 8 = .ok (.iconst 1, 1) := by decide +kernel
theorem dX7_setRows_9 : decode cX7_setRows 9 = .ok (.iload_n 2, 1) := by decide +kernel
theorem dX7_setRows_10 : decode cX7_setRows 10 = .ok (.ishl, 1) := by decide +kernel
theorem dX7_setRows_11 : decode cX7_setRows 11 = .ok (.if_icmp .ge 46, 3) := by decide +kernel
theorem dX7_setRows_14 : decode cX7_setRows 14 = .ok (.aload_n 0, 1) := by decide +kernel
theorem dX7_setRows_15 : decode cX7_setRows 15 = .ok (.getfield 40, 3) := by decide +kernel
theorem dX7_setRows_18 : decode cX7_setRows 18 = .ok (.bipush 6, 2) := by decide +kernel
theorem dX7_setRows_20 : decode cX7_setRows 20 = .ok (.if_icmp .ge 37, 3) := by decide +kernel
theorem dX7_setRows_23 : decode cX7_setRows 23 = .ok (.iload_n 1, 1) := by decide +kernel
theorem dX7_setRows_24 : decode cX7_setRows 24 = .ok (.iload_n 3, 1) := by decide +kernel
theorem dX7_setRows_25 : decode cX7_setRows 25 = .ok (.invokestatic 48, 3) := by decide +kernel
theorem dX7_setRows_28 : decode cX7_setRows 28 = .ok (.ifCond .eq 23, 3) := by decide +kernel
theorem dX7_setRows_31 : decode cX7_setRows 31 = .ok (.aload_n 0, 1) := by decide +kernel
theorem dX7_setRows_32 : decode cX7_setRows 32 = .ok (.getfield 11, 3) := by decide +kernel
theorem dX7_setRows_35 : decode cX7_setRows 35 = .ok (.aload_n 0, 1) := by decide +kernel
theorem dX7_setRows_36 : decode cX7_setRows 36 = .ok (.getfield 40, 3) := by decide +kernel
theorem dX7_setRows_39 : decode cX7_setRows 39 = .ok (.iload_n 3, 1) := by decide +kernel
theorem dX7_setRows_40 : decode cX7_setRows 40 = .ok (.iastore, 1) := by decide +kernel
theorem dX7_setRows_41 : decode cX7_setRows 41 = .ok (.aload_n 0, 1) := by decide +kernel
theorem dX7_setRows_42 : decode cX7_setRows 42 = .ok (.dup, 1) := by decide +kernel
theorem dX7_setRows_43 : decode cX7_setRows 43 = .ok (.getfield 40, 3) := by decide +kernel
theorem dX7_setRows_46 : decode cX7_setRows 46 = .ok (.iconst 1, 1) := by decide +kernel
theorem dX7_setRows_47 : decode cX7_setRows 47 = .ok (.iadd, 1) := by decide +kernel
theorem dX7_setRows_48 : decode cX7_setRows 48 = .ok (.putfield 40, 3) := by decide +kernel
theorem dX7_setRows_51 : decode cX7_setRows 51 = .ok (.iinc 3 1, 3) := by decide +kernel
theorem dX7_setRows_54 : decode cX7_setRows 54 = .ok (.goto (-47), 3) := by decide +kernel
theorem dX7_setRows_57 : decode cX7_setRows 57 = .ok (.return_, 1) := by decide +kernel
theorem dX7_setSums_0 : decode cX7_setSums 0 = .ok (.iconst 0, 1) := by decide +kernel
theorem dX7_setSums_1 : decode cX7_setSums 1 = .ok (.istore_n 2, 1) := by decide +kernel
theorem dX7_setSums_2 : decode cX7_setSums 2 = .ok (.iload_n 2, 1) := by decide +kernel
theorem dX7_setSums_3 : decode cX7_setSums 3 = .ok (.aload_n 0, 1) := by decide +kernel
theorem dX7_setSums_4 : decode cX7_setSums 4 = .ok (.getfield 40, 3) := by decide +kernel
theorem dX7_setSums_7 : decode cX7_setSums 7 = .ok (.if_icmp .ge 62, 3) := by decide +kernel
theorem dX7_setSums_10 : decode cX7_setSums 10 = .ok (.iconst 0, 1) := by decide +kernel
theorem dX7_setSums_11 : decode cX7_setSums 11 = .ok (.istore_n 3, 1) := by decide +kernel
theorem dX7_setSums_12 : decode cX7_setSums 12 = .ok (.iload_n 3, 1) := by decide +kernel
theorem dX7_setSums_13 : decode cX7_setSums 13 = .ok (.aload_n 0, 1) := by decide +kernel
theorem dX7_setSums_14 : decode cX7_setSums 14 = .ok (.getfield 40, 3) := by decide +kernel
theorem dX7_setSums_17 : decode cX7_setSums 17 = .ok (.if_icmp .ge 34, 3) := by decide +kernel
theorem dX7_setSums_20 : decode cX7_setSums 20 = .ok (.aload_n 0, 1) := by decide +kernel
theorem dX7_setSums_21 : decode cX7_setSums 21 = .ok (.getfield 17, 3) := by decide +kernel
theorem dX7_setSums_24 : decode cX7_setSums 24 = .ok (.iload_n 2, 1) := by decide +kernel
theorem dX7_setSums_25 : decode cX7_setSums 25 = .ok (.aaload, 1) := by decide +kernel
theorem dX7_setSums_26 : decode cX7_setSums 26 = .ok (.iload_n 3, 1) := by decide +kernel
theorem dX7_setSums_27 : decode cX7_setSums 27 = .ok (.aload_n 0, 1) := by decide +kernel
theorem dX7_setSums_28 : decode cX7_setSums 28 = .ok (.getfield 11, 3) := by decide +kernel
theorem dX7_setSums_31 : decode cX7_setSums 31 = .ok (.iload_n 3, 1) := by decide +kernel
theorem dX7_setSums_32 : decode cX7_setSums 32 = .ok (.iaload, 1) := by decide +kernel
theorem dX7_setSums_33 : decode cX7_setSums 33 = .ok (.aload_n 0, 1) := by decide +kernel
theorem dX7_setSums_34 : decode cX7_setSums 34 = .ok (.getfield 11, 3) := by decide +kernel
theorem dX7_setSums_37 : decode cX7_setSums 37 = .ok (.iload_n 2, 1) := by decide +kernel
theorem dX7_setSums_38 : decode cX7_setSums 38 = .ok (.iaload, 1) := by decide +kernel
theorem dX7_setSums_39 : decode cX7_setSums 39 = .ok (.iload_n 1, 1) := by decide +kernel
theorem dX7_setSums_40 : decode cX7_setSums 40 = .ok (.invokestatic 52, 3) := by decide +kernel
theorem dX7_setSums_43 : decode cX7_setSums 43 = .ok (.i2l, 1) := by decide +kernel
theorem dX7_setSums_44 : decode cX7_setSums 44 = .ok (.lastore, 1) := by decide +kernel
theorem dX7_setSums_45 : decode cX7_setSums 45 = .ok (.iinc 3 1, 3) := by decide +kernel
theorem dX7_setSums_48 : decode cX7_setSums 48 = .ok (.goto (-36), 3) := by decide +kernel
theorem dX7_setSums_51 : decode cX7_setSums 51 = .ok (.aload_n 0, 1) := by decide +kernel
theorem dX7_setSums_52 : decode cX7_setSums 52 = .ok (.getfield 17, 3) := by decide +kernel
theorem dX7_setSums_55 : decode cX7_setSums 55 = .ok (.iload_n 2, 1) := by decide +kernel
theorem dX7_setSums_56 : decode cX7_setSums 56 = .ok (.aaload, 1) := by decide +kernel
theorem dX7_setSums_57 : decode cX7_setSums 57 = .ok (.aload_n 0, 1) := by decide +kernel
theorem dX7_setSums_58 : decode cX7_setSums 58 = .ok (.getfield 40, 3) := by decide +kernel
theorem dX7_setSums_61 : decode cX7_setSums 61 = .ok (.lconst 1, 1) := by decide +kernel
theorem dX7_setSums_62 : decode cX7_setSums 62 = .ok (.lastore, 1) := by decide +kernel
theorem dX7_setSums_63 : decode cX7_setSums 63 = .ok (.iinc 2 1, 3) := by decide +kernel
theorem dX7_setSums_66 : decode cX7_setSums 66 = .ok (.goto (-64), 3) := by decide +kernel
theorem dX7_setSums_69 : decode cX7_setSums 69 = .ok (.return_, 1) := by decide +kernel
theorem dX7_overlap_0 : decode cX7_overlap 0 = .ok (.iconst 0, 1) := by decide +kernel
theorem dX7_overlap_1 : decode cX7_overlap 1 = .ok (.istore_n 3, 1) := by decide +kernel
theorem dX7_overlap_2 : decode cX7_overlap 2 = .ok (.iconst 1, 1) := by decide +kernel
theorem dX7_overlap_3 : decode cX7_overlap 3 = .ok (.istore 4, 2) := by decide +kernel
theorem dX7_overlap_5 : decode cX7_overlap 5 = .ok (.iload 4, 2) := by decide +kernel
theorem dX7_overlap_7 : decode cX7_overlap 7 = .ok (.iload_n 2, 1) := by decide +kernel
theorem dX7_overlap_8 : decode cX7_overlap 8 = .ok (.if_icmp .gt 41, 3) := by decide +kernel
theorem dX7_overlap_11 : decode cX7_overlap 11 = .ok (.iload_n 0, 1) := by decide +kernel
theorem dX7_overlap_12 : decode cX7_overlap 12 = .ok (.iconst 1, 1) := by decide +kernel
theorem dX7_overlap_13 : decode cX7_overlap 13 = .ok (.iload 4, 2) := by decide +kernel
theorem dX7_overlap_15 : decode cX7_overlap 15 = .ok (.ishl, 1) := by decide +kernel
theorem dX7_overlap_16 : decode cX7_overlap 16 = .ok (.iconst 1, 1) := by decide +kernel
theorem dX7_overlap_17 : decode cX7_overlap 17 = .ok (.isub, 1) := by decide +kernel
theorem dX7_overlap_18 : decode cX7_overlap 18 = .ok (.iand, 1) := by decide +kernel
theorem dX7_overlap_19 : decode cX7_overlap 19 = .ok (.istore 5, 2) := by decide +kernel
theorem dX7_overlap_21 : decode cX7_overlap 21 = .ok (.iload_n 1, 1) := by decide +kernel
theorem dX7_overlap_22 : decode cX7_overlap 22 = .ok (.iload_n 2, 1) := by decide +kernel
theorem dX7_overlap_23 : decode cX7_overlap 23 = .ok (.iload 4, 2) := by decide +kernel
theorem dX7_overlap_25 : decode cX7_overlap 25 = .ok (.isub, 1) := by decide +kernel
theorem dX7_overlap_26 : decode cX7_overlap 26 = .ok (.ishr, 1) := by decide +kernel
theorem dX7_overlap_27 : decode cX7_overlap 27 = .ok (.istore 6, 2) := by decide +kernel
theorem dX7_overlap_29 : decode cX7_overlap 29 = .ok (.iload 5, 2) := by decide +kernel
theorem dX7_overlap_31 : decode cX7_overlap 31 = .ok (.iload 6, 2) := by decide +kernel
theorem dX7_overlap_33 : decode cX7_overlap 33 = .ok (.if_icmp .ne 10, 3) := by decide +kernel
theorem dX7_overlap_36 : decode cX7_overlap 36 = .ok (.iload_n 3, 1) := by decide +kernel
theorem dX7_overlap_37 : decode cX7_overlap 37 = .ok (.iconst 1, 1) := by decide +kernel
theorem dX7_overlap_38 : decode cX7_overlap 38 = .ok (.iload 4, 2) := by decide +kernel
theorem dX7_overlap_40 : decode cX7_overlap 40 = .ok (.ishl, 1) := by decide +kernel
theorem dX7_overlap_41 : decode cX7_overlap 41 = .ok (.iadd, 1) := by decide +kernel
theorem dX7_overlap_42 : decode cX7_overlap 42 = .ok (.istore_n 3, 1) := by decide +kernel
theorem dX7_overlap_43 : decode cX7_overlap 43 = .ok (.iinc 4 1, 3) := by decide +kernel
theorem dX7_overlap_46 : decode cX7_overlap 46 = .ok (.goto (-41), 3) := by decide +kernel
theorem dX7_overlap_49 : decode cX7_overlap 49 = .ok (.iload_n 3, 1) := by decide +kernel
theorem dX7_overlap_50 : decode cX7_overlap 50 = .ok (.ireturn, 1) := by decide +kernel
theorem dX7_sharesOf_0 : decode cX7_sharesOf 0 = .ok (.lconst 0, 1) := by decide +kernel
theorem dX7_sharesOf_1 : decode cX7_sharesOf 1 = .ok (.lstore_n 2, 1) := by decide +kernel
theorem dX7_sharesOf_2 : decode cX7_sharesOf 2 = .ok (.iconst 0, 1) := by decide +kernel
theorem dX7_sharesOf_3 : decode cX7_sharesOf 3 = .ok (.istore 4, 2) := by decide +kernel
theorem dX7_sharesOf_5 : decode cX7_sharesOf 5 = .ok (.iload 4, 2) := by decide +kernel
theorem dX7_sharesOf_7 : decode cX7_sharesOf 7 = .ok (.aload_n 0, 1) := by decide +kernel
theorem dX7_sharesOf_8 : decode cX7_sharesOf 8 = .ok (.getfield 40, 3) := by decide +kernel
theorem dX7_sharesOf_11 : decode cX7_sharesOf 11 = .ok (.if_icmp .ge 38, 3) := by decide +kernel
theorem dX7_sharesOf_14 : decode cX7_sharesOf 14 = .ok (.iload_n 1, 1) := by decide +kernel
theorem dX7_sharesOf_15 : decode cX7_sharesOf 15 = .ok (.aload_n 0, 1) := by decide +kernel
theorem dX7_sharesOf_16 : decode cX7_sharesOf 16 = .ok (.getfield 11, 3) := by decide +kernel
theorem dX7_sharesOf_19 : decode cX7_sharesOf 19 = .ok (.iload 4, 2) := by decide +kernel
theorem dX7_sharesOf_21 : decode cX7_sharesOf 21 = .ok (.iaload, 1) := by decide +kernel
theorem dX7_sharesOf_22 : decode cX7_sharesOf 22 = .ok (.invokestatic 48, 3) := by decide +kernel
theorem dX7_sharesOf_25 : decode cX7_sharesOf 25 = .ok (.ifCond .eq 18, 3) := by decide +kernel
theorem dX7_sharesOf_28 : decode cX7_sharesOf 28 = .ok (.lload_n 2, 1) := by decide +kernel
theorem dX7_sharesOf_29 : decode cX7_sharesOf 29 = .ok (.aload_n 0, 1) := by decide +kernel
theorem dX7_sharesOf_30 : decode cX7_sharesOf 30 = .ok (.getfield 17, 3) := by decide +kernel
theorem dX7_sharesOf_33 : decode cX7_sharesOf 33 = .ok (.iload 4, 2) := by decide +kernel
theorem dX7_sharesOf_35 : decode cX7_sharesOf 35 = .ok (.aaload, 1) := by decide +kernel
theorem dX7_sharesOf_36 : decode cX7_sharesOf 36 = .ok (.aload_n 0, 1) := by decide +kernel
theorem dX7_sharesOf_37 : decode cX7_sharesOf 37 = .ok (.getfield 40, 3) := by decide +kernel
theorem dX7_sharesOf_40 : decode cX7_sharesOf 40 = .ok (.laload, 1) := by decide +kernel
theorem dX7_sharesOf_41 : decode cX7_sharesOf 41 = .ok (.ladd, 1) := by decide +kernel
theorem dX7_sharesOf_42 : decode cX7_sharesOf 42 = .ok (.lstore_n 2, 1) := by decide +kernel
theorem dX7_sharesOf_43 : decode cX7_sharesOf 43 = .ok (.iinc 4 1, 3) := by decide +kernel
theorem dX7_sharesOf_46 : decode cX7_sharesOf 46 = .ok (.goto (-41), 3) := by decide +kernel
theorem dX7_sharesOf_49 : decode cX7_sharesOf 49 = .ok (.lload_n 2, 1) := by decide +kernel
theorem dX7_sharesOf_50 : decode cX7_sharesOf 50 = .ok (.lreturn, 1) := by decide +kernel
theorem dX8_init_0 : decode cX8_init 0 = .ok (.aload_n 0, 1) := by decide +kernel
theorem dX8_init_1 : decode cX8_init 1 = .ok (.invokespecial 3, 3) := by decide +kernel
theorem dX8_init_4 : decode cX8_init 4 = .ok (.aload_n 0, 1) := by decide +kernel
theorem dX8_init_5 : decode cX8_init 5 = .ok (.new 9, 3) := by decide +kernel
theorem dX8_init_8 : decode cX8_init 8 = .ok (.dup, 1) := by decide +kernel
theorem dX8_init_9 : decode cX8_init 9 = .ok (.invokespecial 11, 3) := by decide +kernel
theorem dX8_init_12 : decode cX8_init 12 = .ok (.putfield 12, 3) := by decide +kernel
theorem dX8_init_15 : decode cX8_init 15 = .ok (.aload_n 0, 1) := by decide +kernel
theorem dX8_init_16 : decode cX8_init 16 = .ok (.new 16, 3) := by decide +kernel
theorem dX8_init_19 : decode cX8_init 19 = .ok (.dup, 1) := by decide +kernel
theorem dX8_init_20 : decode cX8_init 20 = .ok (.invokespecial 18, 3) := by decide +kernel
theorem dX8_init_23 : decode cX8_init 23 = .ok (.putfield 19, 3) := by decide +kernel
theorem dX8_init_26 : decode cX8_init 26 = .ok (.aload_n 0, 1) := by decide +kernel
theorem dX8_init_27 : decode cX8_init 27 = .ok (.new 16, 3) := by decide +kernel
theorem dX8_init_30 : decode cX8_init 30 = .ok (.dup, 1) := by decide +kernel
theorem dX8_init_31 : decode cX8_init 31 = .ok (.invokespecial 18, 3) := by decide +kernel
theorem dX8_init_34 : decode cX8_init 34 = .ok (.putfield 23, 3) := by decide +kernel
theorem dX8_init_37 : decode cX8_init 37 = .ok (.aload_n 0, 1) := by decide +kernel
theorem dX8_init_38 : decode cX8_init 38 = .ok (.new 26, 3) := by decide +kernel
theorem dX8_init_41 : decode cX8_init 41 = .ok (.dup, 1) := by decide +kernel
theorem dX8_init_42 : decode cX8_init 42 = .ok (.invokespecial 28, 3) := by decide +kernel
theorem dX8_init_45 : decode cX8_init 45 = .ok (.putfield 29, 3) := by decide +kernel
theorem dX8_init_48 : decode cX8_init 48 = .ok (.aload_n 0, 1) := by decide +kernel
theorem dX8_init_49 : decode cX8_init 49 = .ok (.iconst 5, 1) := by decide +kernel
theorem dX8_init_50 : decode cX8_init 50 = .ok (.anewarray 33, 3) := by decide +kernel
theorem dX8_init_53 : decode cX8_init 53 = .ok (.dup, 1) := by decide +kernel
theorem dX8_init_54 : decode cX8_init 54 = .ok (.iconst 0, 1) := by decide +kernel
theorem dX8_init_55 : decode cX8_init 55 = .ok (.new 33, 3) := by decide +kernel
theorem dX8_init_58 : decode cX8_init 58 = .ok (.dup, 1) := by decide +kernel
theorem dX8_init_59 : decode cX8_init 59 = .ok (.invokespecial 35, 3) := by decide +kernel
theorem dX8_init_62 : decode cX8_init 62 = .ok (.aastore, 1) := by decide +kernel
theorem dX8_init_63 : decode cX8_init 63 = .ok (.dup, 1) := by decide +kernel
theorem dX8_init_64 : decode cX8_init 64 = .ok (.iconst 1, 1) := by decide +kernel
theorem dX8_init_65 : decode cX8_init 65 = .ok (.new 36, 3) := by decide +kernel
theorem dX8_init_68 : decode cX8_init 68 = .ok (.dup, 1) := by decide +kernel
theorem dX8_init_69 : decode cX8_init 69 = .ok (.invokespecial 38, 3) := by decide +kernel
theorem dX8_init_72 : decode cX8_init 72 = .ok (.aastore, 1) := by decide +kernel
theorem dX8_init_73 : decode cX8_init 73 = .ok (.dup, 1) := by decide +kernel
theorem dX8_init_74 : decode cX8_init 74 = .ok (.iconst 2, 1) := by decide +kernel
theorem dX8_init_75 : decode cX8_init 75 = .ok (.new 39, 3) := by decide +kernel
theorem dX8_init_78 : decode cX8_init 78 = .ok (.dup, 1) := by decide +kernel
theorem dX8_init_79 : decode cX8_init 79 = .ok (.invokespecial 41, 3) := by decide +kernel
theorem dX8_init_82 : decode cX8_init 82 = .ok (.aastore, 1) := by decide +kernel
theorem dX8_init_83 : decode cX8_init 83 = .ok (.dup, 1) := by decide +kernel
theorem dX8_init_84 : decode cX8_init 84 = .ok (.iconst 3, 1) := by decide +kernel
theorem dX8_init_85 : decode cX8_init 85 = .ok (.new 42, 3) := by decide +kernel
theorem dX8_init_88 : decode cX8_init 88 = .ok (.dup, 1) := by decide +kernel
theorem dX8_init_89 : decode cX8_init 89 = .ok (.invokespecial 44, 3) := by decide +kernel
theorem dX8_init_92 : decode cX8_init 92 = .ok (.aastore, 1) := by decide +kernel
theorem dX8_init_93 : decode cX8_init 93 = .ok (.dup, 1) := by decide +kernel
theorem dX8_init_94 : decode cX8_init 94 = .ok (.iconst 4, 1) := by decide +kernel
theorem dX8_init_95 : decode cX8_init 95 = .ok (.new 45, 3) := by decide +kernel
theorem dX8_init_98 : decode cX8_init 98 = .ok (.dup, 1) := by decide +kernel
theorem dX8_init_99 : decode cX8_init 99 = .ok (.invokespecial 47, 3) := by decide +kernel
theorem dX8_init_102 : decode cX8_init 102 = .ok (.aastore, 1) := by decide +kernel
theorem dX8_init_103 : decode cX8_init 103 = .ok (.putfield 48, 3) := by decide +kernel
theorem dX8_init_106 : decode cX8_init 106 = .ok (.aload_n 0, 1) := by decide +kernel
theorem dX8_init_107 : decode cX8_init 107 = .ok (.iconst 4, 1) := by decide +kernel
theorem dX8_init_108 : decode cX8_init 108 = .ok (.newarray .int, 2) := by decide +kernel
theorem dX8_init_110 : decode cX8_init 110 = .ok (.putfield 52, 3) := by decide +kernel
theorem dX8_init_113 : decode cX8_init 113 = .ok (.aload_n 0, 1) := by decide +kernel
theorem dX8_init_114 : decode cX8_init 114 = .ok (.bipush 32, 2) := by decide +kernel
theorem dX8_init_116 : decode cX8_init 116 = .ok (.newarray .int, 2) := by decide +kernel
theorem dX8_init_118 : decode cX8_init 118 = .ok (.putfield 56, 3) := by decide +kernel
theorem dX8_init_121 : decode cX8_init 121 = .ok (.aload_n 0, 1) := by decide +kernel
theorem dX8_init_122 : decode cX8_init 122 = .ok (.bipush 32, 2) := by decide +kernel
theorem dX8_init_124 : decode cX8_init 124 = .ok (.newarray .int, 2) := by decide +kernel
theorem dX8_init_126 : decode cX8_init 126 = .ok (.putfield 59, 3) := by decide +kernel
theorem dX8_init_129 : decode cX8_init 129 = .ok (.return_, 1) := by decide +kernel
theorem dX8_letter_0 : decode cX8_letter 0 = .ok (.iload_n 1, 1) := by decide +kernel
theorem dX8_letter_1 : decode cX8_letter 1 = .ok (.bipush 32, 2) := by decide +kernel
theorem dX8_letter_3 : decode cX8_letter 3 = .ok (.if_icmp .lt 9, 3) := by decide +kernel
theorem dX8_letter_6 : decode cX8_letter 6 = .ok (.iload_n 1, 1) := by decide +kernel
theorem dX8_letter_7 : decode cX8_letter 7 = .ok (.bipush 126, 2) := by decide +kernel
theorem dX8_letter_9 : decode cX8_letter 9 = .ok (.if_icmp .le 6, 3) := by decide +kernel
theorem dX8_letter_12 : decode cX8_letter 12 = .ok (.bipush (-102), 2) := by decide +kernel
theorem dX8_letter_14 : decode cX8_letter 14 = .ok (.ireturn, 1) := by decide +kernel
theorem dX8_letter_15 : decode cX8_letter 15 = .ok (.aload_n 0, 1) := by decide +kernel
theorem dX8_letter_16 : decode cX8_letter 16 = .ok (.getfield 12, 3) := by decide +kernel
theorem dX8_letter_19 : decode cX8_letter 19 = .ok (.invokevirtual 62, 3) := by decide +kernel
theorem dX8_letter_22 : decode cX8_letter 22 = .ok (.ifCond .eq 6, 3) := by decide +kernel
theorem dX8_letter_25 : decode cX8_letter 25 = .ok (.bipush (-104), 2) := by decide +kernel
theorem dX8_letter_27 : decode cX8_letter 27 = .ok (.ireturn, 1) := by decide +kernel
theorem dX8_letter_28 : decode cX8_letter 28 = .ok (.aload_n 0, 1) := by decide +kernel
theorem dX8_letter_29 : decode cX8_letter 29 = .ok (.getfield 12, 3) := by decide +kernel
theorem dX8_letter_32 : decode cX8_letter 32 = .ok (.iload_n 1, 1) := by decide +kernel
theorem dX8_letter_33 : decode cX8_letter 33 = .ok (.i2c, 1) := by decide +kernel
theorem dX8_letter_34 : decode cX8_letter 34 = .ok (.invokevirtual 66, 3) := by decide +kernel
theorem dX8_letter_37 : decode cX8_letter 37 = .ok (.aload_n 0, 1) := by decide +kernel
theorem dX8_letter_38 : decode cX8_letter 38 = .ok (.getfield 12, 3) := by decide +kernel
theorem dX8_letter_41 : decode cX8_letter 41 = .ok (.invokevirtual 70, 3) := by decide +kernel
theorem dX8_letter_44 : decode cX8_letter 44 = .ok (.ireturn, 1) := by decide +kernel
theorem dX8_blank_0 : decode cX8_blank 0 = .ok (.aload_n 0, 1) := by decide +kernel
theorem dX8_blank_1 : decode cX8_blank 1 = .ok (.getfield 12, 3) := by decide +kernel
theorem dX8_blank_4 : decode cX8_blank 4 = .ok (.invokevirtual 70, 3) := by decide +kernel
theorem dX8_blank_7 : decode cX8_blank 7 = .ok (.istore_n 1, 1) := by decide +kernel
theorem dX8_blank_8 : decode cX8_blank 8 = .ok (.aload_n 0, 1) := by decide +kernel
theorem dX8_blank_9 : decode cX8_blank 9 = .ok (.getfield 12, 3) := by decide +kernel
theorem dX8_blank_12 : decode cX8_blank 12 = .ok (.invokevirtual 74, 3) := by decide +kernel
theorem dX8_blank_15 : decode cX8_blank 15 = .ok (.iload_n 1, 1) := by decide +kernel
theorem dX8_blank_16 : decode cX8_blank 16 = .ok (.ireturn, 1) := by decide +kernel
theorem dX8_fault_0 : decode cX8_fault 0 = .ok (.aload_n 0, 1) := by decide +kernel
theorem dX8_fault_1 : decode cX8_fault 1 = .ok (.getfield 12, 3) := by decide +kernel
theorem dX8_fault_4 : decode cX8_fault 4 = .ok (.invokevirtual 77, 3) := by decide +kernel
theorem dX8_fault_7 : decode cX8_fault 7 = .ok (.ireturn, 1) := by decide +kernel
theorem dX8_table_0 : decode cX8_table 0 = .ok (.aload_n 0, 1) := by decide +kernel
theorem dX8_table_1 : decode cX8_table 1 = .ok (.getfield 12, 3) := by decide +kernel
theorem dX8_table_4 : decode cX8_table 4 = .ok (.invokevirtual 80, 3) := by decide +kernel
theorem dX8_table_7 : decode cX8_table 7 = .ok (.istore_n 1, 1) := by decide +kernel
theorem dX8_table_8 : decode cX8_table 8 = .ok (.iload_n 1, 1) := by decide +kernel
theorem dX8_table_9 : decode cX8_table 9 = .ok (.ifCond .ne 6, 3) := by decide +kernel
theorem dX8_table_12 : decode cX8_table 12 = .ok (.bipush (-103), 2) := by decide +kernel
theorem dX8_table_14 : decode cX8_table 14 = .ok (.ireturn, 1) := by decide +kernel
theorem dX8_table_15 : decode cX8_table 15 = .ok (.aload_n 0, 1) := by decide +kernel
theorem dX8_table_16 : decode cX8_table 16 = .ok (.iload_n 1, 1) := by decide +kernel
theorem dX8_table_17 : decode cX8_table 17 = .ok (.putfield 83, 3) := by decide +kernel
theorem dX8_table_20 : decode cX8_table 20 = .ok (.aload_n 0, 1) := by decide +kernel
theorem dX8_table_21 : decode cX8_table 21 = .ok (.aload_n 0, 1) := by decide +kernel
theorem dX8_table_22 : decode cX8_table 22 = .ok (.getfield 12, 3) := by decide +kernel
theorem dX8_table_25 : decode cX8_table 25 = .ok (.invokevirtual 87, 3) := by decide +kernel
theorem dX8_table_28 : decode cX8_table 28 = .ok (.putfield 90, 3) := by decide +kernel
theorem dX8_table_31 : decode cX8_table 31 = .ok (.aload_n 0, 1) := by decide +kernel
theorem dX8_table_32 : decode cX8_table 32 = .ok (.getfield 19, 3) := by decide +kernel
theorem dX8_table_35 : decode cX8_table 35 = .ok (.invokevirtual 92, 3) := by decide +kernel
theorem dX8_table_38 : decode cX8_table 38 = .ok (.iconst 0, 1) := by decide +kernel
theorem dX8_table_39 : decode cX8_table 39 = .ok (.istore_n 2, 1) := by decide +kernel
theorem dX8_table_40 : decode cX8_table 40 = .ok (.iload_n 2, 1) := by decide +kernel
theorem dX8_table_41 : decode cX8_table 41 = .ok (.aload_n 0, 1) := by decide +kernel
theorem dX8_table_42 : decode cX8_table 42 = .ok (.getfield 83, 3) := by decide +kernel
theorem dX8_table_45 : decode cX8_table 45 = .ok (.if_icmp .ge 48, 3) := by decide +kernel
theorem dX8_table_48 : decode cX8_table 48 = .ok (.iload_n 2, 1) := by decide +kernel
theorem dX8_table_49 : decode cX8_table 49 = .ok (.iconst 4, 1) := by decide +kernel
theorem dX8_table_50 : decode cX8_table 50 = .ok (.if_icmp .ge 43, 3) := by decide +kernel
theorem dX8_table_53 : decode cX8_table 53 = .ok (.aload_n 0, 1) := by decide +kernel
theorem dX8_table_54 : decode cX8_table 54 = .ok (.getfield 19, 3) := by decide +kernel
theorem dX8_table_57 : decode cX8_table 57 = .ok (.getfield 93, 3) := by decide +kernel
theorem dX8_table_60 : decode cX8_table 60 = .ok (.iload_n 2, 1) := by decide +kernel
theorem dX8_table_61 : decode cX8_table 61 = .ok (.aload_n 0, 1) := by decide +kernel
theorem dX8_table_62 : decode cX8_table 62 = .ok (.getfield 12, 3) := by decide +kernel
theorem dX8_table_65 : decode cX8_table 65 = .ok (.iload_n 2, 1) := by decide +kernel
theorem dX8_table_66 : decode cX8_table 66 = .ok (.invokevirtual 96, 3) := by decide +kernel
theorem dX8_table_69 : decode cX8_table 69 = .ok (.iastore, 1) := by decide +kernel
theorem dX8_table_70 : decode cX8_table 70 = .ok (.aload_n 0, 1) := by decide +kernel
theorem dX8_table_71 : decode cX8_table 71 = .ok (.getfield 19, 3) := by decide +kernel
theorem dX8_table_74 : decode cX8_table 74 = .ok (.getfield 100, 3) := by decide +kernel
theorem dX8_table_77 : decode cX8_table 77 = .ok (.iload_n 2, 1) := by decide +kernel
theorem dX8_table_78 : decode cX8_table 78 = .ok (.aload_n 0, 1) := by decide +kernel
theorem dX8_table_79 : decode cX8_table 79 = .ok (.getfield 12, 3) := by decide +kernel
theorem dX8_table_82 : decode cX8_table 82 = .ok (.iload_n 2, 1) := by decide +kernel
theorem dX8_table_83 : decode cX8_table 83 = .ok (.invokevirtual 103, 3) := by decide +kernel
theorem dX8_table_86 : decode cX8_table 86 = .ok (.iastore, 1) := by decide +kernel
theorem dX8_table_87 : decode cX8_table 87 = .ok (.iinc 2 1, 3) := by decide +kernel
theorem dX8_table_90 : decode cX8_table 90 = .ok (.goto (-50), 3) := by decide +kernel
theorem dX8_table_93 : decode cX8_table 93 = .ok (.aload_n 0, 1) := by decide +kernel
theorem dX8_table_94 : decode cX8_table 94 = .ok (.getfield 12, 3) := by decide +kernel
theorem dX8_table_97 : decode cX8_table 97 = .ok (.invokevirtual 74, 3) := by decide +kernel
theorem dX8_table_100 : decode cX8_table 100 = .ok (.aload_n 0, 1) := by decide +kernel
theorem dX8_table_101 : decode cX8_table 101 = .ok (.iconst 0, 1) := by decide +kernel
theorem dX8_table_102 : decode cX8_table 102 = .ok (.putfield 106, 3) := by decide +kernel
theorem dX8_table_105 : decode cX8_table 105 = .ok (.aload_n 0, 1) := by decide +kernel
theorem dX8_table_106 : decode cX8_table 106 = .ok (.dup, 1) := by decide +kernel
theorem dX8_table_107 : decode cX8_table 107 = .ok (.getfield 110, 3) := by decide +kernel
theorem dX8_table_110 : decode cX8_table 110 = .ok (.iconst 1, 1) := by decide +kernel
theorem dX8_table_111 : decode cX8_table 111 = .ok (.iadd, 1) := by decide +kernel
theorem dX8_table_112 : decode cX8_table 112 = .ok (.putfield 110, 3) := by decide +kernel
theorem dX8_table_115 : decode cX8_table 115 = .ok (.aload_n 0, 1) := by decide +kernel
theorem dX8_table_116 : decode cX8_table 116 = .ok (.getfield 83, 3) := by decide +kernel
theorem dX8_table_119 : decode cX8_table 119 = .ok (.ireturn, 1) := by decide +kernel
theorem dX8_player_0 : decode cX8_player 0 = .ok (.aload_n 0, 1) := by decide +kernel
theorem dX8_player_1 : decode cX8_player 1 = .ok (.iload_n 1, 1) := by decide +kernel
theorem dX8_player_2 : decode cX8_player 2 = .ok (.invokevirtual 113, 3) := by decide +kernel
theorem dX8_player_5 : decode cX8_player 5 = .ok (.ifCond .ne 6, 3) := by decide +kernel
theorem dX8_player_8 : decode cX8_player 8 = .ok (.bipush (-101), 2) := by decide +kernel
theorem dX8_player_10 : decode cX8_player 10 = .ok (.ireturn, 1) := by decide +kernel
theorem dX8_player_11 : decode cX8_player 11 = .ok (.iload_n 2, 1) := by decide +kernel
theorem dX8_player_12 : decode cX8_player 12 = .ok (.tableswitch 112 0 6 #[44, 54, 64, 74, 91, 100, 106], 44) := by decide +kernel
theorem dX8_player_56 : decode cX8_player 56 = .ok (.aload_n 0, 1) := by decide +kernel
theorem dX8_player_57 : decode cX8_player 57 = .ok (.getfield 19, 3) := by decide +kernel
theorem dX8_player_60 : decode cX8_player 60 = .ok (.getfield 93, 3) := by decide +kernel
theorem dX8_player_63 : decode cX8_player 63 = .ok (.iload_n 1, 1) := by decide +kernel
theorem dX8_player_64 : decode cX8_player 64 = .ok (.iaload, 1) := by decide +kernel
theorem dX8_player_65 : decode cX8_player 65 = .ok (.ireturn, 1) := by decide +kernel
theorem dX8_player_66 : decode cX8_player 66 = .ok (.aload_n 0, 1) := by decide +kernel
theorem dX8_player_67 : decode cX8_player 67 = .ok (.getfield 19, 3) := by decide +kernel
theorem dX8_player_70 : decode cX8_player 70 = .ok (.getfield 100, 3) := by decide +kernel
theorem dX8_player_73 : decode cX8_player 73 = .ok (.iload_n 1, 1) := by decide +kernel
theorem dX8_player_74 : decode cX8_player 74 = .ok (.iaload, 1) := by decide +kernel
theorem dX8_player_75 : decode cX8_player 75 = .ok (.ireturn, 1) := by decide +kernel
theorem dX8_player_76 : decode cX8_player 76 = .ok (.aload_n 0, 1) := by decide +kernel
theorem dX8_player_77 : decode cX8_player 77 = .ok (.getfield 19, 3) := by decide +kernel
theorem dX8_player_80 : decode cX8_player 80 = .ok (.getfield 117, 3) := by decide +kernel
theorem dX8_player_83 : decode cX8_player 83 = .ok (.iload_n 1, 1) := by decide +kernel
theorem dX8_player_84 : decode cX8_player 84 = .ok (.iaload, 1) := by decide +kernel
theorem dX8_player_85 : decode cX8_player 85 = .ok (.ireturn, 1) := by decide +kernel
theorem dX8_player_86 : decode cX8_player 86 = .ok (.aload_n 0, 1) := by decide +kernel
theorem dX8_player_87 : decode cX8_player 87 = .ok (.getfield 29, 3) := by decide +kernel
theorem dX8_player_90 : decode cX8_player 90 = .ok (.aload_n 0, 1) := by decide +kernel
theorem dX8_player_91 : decode cX8_player 91 = .ok (.iload_n 1, 1) := by decide +kernel
theorem dX8_player_92 : decode cX8_player 92 = .ok (.invokevirtual 120, 3) := by decide +kernel
theorem dX8_player_95 : decode cX8_player 95 = .ok (.aload_n 0, 1) := by decide +kernel
theorem dX8_player_96 : decode cX8_player 96 = .ok (.getfield 90, 3) := by decide +kernel
theorem dX8_player_99 : decode cX8_player 99 = .ok (.invokevirtual 123, 3) := by decide +kernel
theorem dX8_player_102 : decode cX8_player 102 = .ok (.ireturn, 1) := by decide +kernel
theorem dX8_player_103 : decode cX8_player 103 = .ok (.aload_n 0, 1) := by decide +kernel
theorem dX8_player_104 : decode cX8_player 104 = .ok (.iload_n 1, 1) := by decide +kernel
theorem dX8_player_105 : decode cX8_player 105 = .ok (.invokevirtual 120, 3) := by decide +kernel
theorem dX8_player_108 : decode cX8_player 108 = .ok (.invokestatic 127, 3) := by decide +kernel
theorem dX8_player_111 : decode cX8_player 111 = .ok (.ireturn, 1) := by decide +kernel
theorem dX8_player_112 : decode cX8_player 112 = .ok (.aload_n 0, 1) := by decide +kernel
theorem dX8_player_113 : decode cX8_player 113 = .ok (.iload_n 1, 1) := by decide +kernel
theorem dX8_player_114 : decode cX8_player 114 = .ok (.invokevirtual 132, 3) := by decide +kernel
theorem dX8_player_117 : decode cX8_player 117 = .ok (.ireturn, 1) := by decide +kernel
theorem dX8_player_118 : decode cX8_player 118 = .ok (.aload_n 0, 1) := by decide +kernel
theorem dX8_player_119 : decode cX8_player 119 = .ok (.iload_n 1, 1) := by decide +kernel
theorem dX8_player_120 : decode cX8_player 120 = .ok (.invokevirtual 135, 3) := by decide +kernel
theorem dX8_player_123 : decode cX8_player 123 = .ok (.ireturn, 1) := by decide +kernel
theorem dX8_player_124 : decode cX8_player 124 = .ok (.bipush (-102), 2) := by decide +kernel
theorem dX8_player_126 : decode cX8_player 126 = .ok (.ireturn, 1) := by decide +kernel
theorem dX8_as_0 : decode cX8_as 0 = .ok (.aload_n 0, 1) := by decide +kernel
theorem dX8_as_1 : decode cX8_as 1 = .ok (.iload_n 1, 1) := by decide +kernel
theorem dX8_as_2 : decode cX8_as 2 = .ok (.invokevirtual 113, 3) := by decide +kernel
theorem dX8_as_5 : decode cX8_as 5 = .ok (.ifCond .ne 6, 3) := by decide +kernel
theorem dX8_as_8 : decode cX8_as 8 = .ok (.bipush (-101), 2) := by decide +kernel
theorem dX8_as_10 : decode cX8_as 10 = .ok (.ireturn, 1) := by decide +kernel
theorem dX8_as_11 : decode cX8_as 11 = .ok (.aload_n 0, 1) := by decide +kernel
theorem dX8_as_12 : decode cX8_as 12 = .ok (.iload_n 2, 1) := by decide +kernel
theorem dX8_as_13 : decode cX8_as 13 = .ok (.invokevirtual 138, 3) := by decide +kernel
theorem dX8_as_16 : decode cX8_as 16 = .ok (.ifCond .ne 6, 3) := by decide +kernel
theorem dX8_as_19 : decode cX8_as 19 = .ok (.bipush (-102), 2) := by decide +kernel
theorem dX8_as_21 : decode cX8_as 21 = .ok (.ireturn, 1) := by decide +kernel
theorem dX8_as_22 : decode cX8_as 22 = .ok (.aload_n 0, 1) := by decide +kernel
theorem dX8_as_23 : decode cX8_as 23 = .ok (.aload_n 0, 1) := by decide +kernel
theorem dX8_as_24 : decode cX8_as 24 = .ok (.getfield 19, 3) := by decide +kernel
theorem dX8_as_27 : decode cX8_as 27 = .ok (.getfield 93, 3) := by decide +kernel
theorem dX8_as_30 : decode cX8_as 30 = .ok (.iload_n 1, 1) := by decide +kernel
theorem dX8_as_31 : decode cX8_as 31 = .ok (.iaload, 1) := by decide +kernel
theorem dX8_as_32 : decode cX8_as 32 = .ok (.invokevirtual 141, 3) := by decide +kernel
theorem dX8_as_35 : decode cX8_as 35 = .ok (.iload_n 2, 1) := by decide +kernel
theorem dX8_as_36 : decode cX8_as 36 = .ok (.invokestatic 145, 3) := by decide +kernel
theorem dX8_as_39 : decode cX8_as 39 = .ok (.ifCond .eq 7, 3) := by decide +kernel
theorem dX8_as_42 : decode cX8_as 42 = .ok (.iload_n 1, 1) := by decide +kernel
theorem dX8_as_43 : decode cX8_as 43 = .ok (.goto 4, 3) := by decide +kernel
theorem dX8_as_46 : decode cX8_as 46 = .ok (.iconst (-1), 1) := by decide +kernel
theorem dX8_as_47 : decode cX8_as 47 = .ok (.ireturn, 1) := by decide +kernel
theorem dX8_hits_0 : decode cX8_hits 0 = .ok (.aload_n 0, 1) := by decide +kernel
theorem dX8_hits_1 : decode cX8_hits 1 = .ok (.iload_n 1, 1) := by decide +kernel
theorem dX8_hits_2 : decode cX8_hits 2 = .ok (.invokevirtual 113, 3) := by decide +kernel
theorem dX8_hits_5 : decode cX8_hits 5 = .ok (.ifCond .ne 6, 3) := by decide +kernel
theorem dX8_hits_8 : decode cX8_hits 8 = .ok (.bipush (-101), 2) := by decide +kernel
theorem dX8_hits_10 : decode cX8_hits 10 = .ok (.ireturn, 1) := by decide +kernel
theorem dX8_hits_11 : decode cX8_hits 11 = .ok (.aload_n 0, 1) := by decide +kernel
theorem dX8_hits_12 : decode cX8_hits 12 = .ok (.iload_n 2, 1) := by decide +kernel
theorem dX8_hits_13 : decode cX8_hits 13 = .ok (.invokevirtual 149, 3) := by decide +kernel
theorem dX8_hits_16 : decode cX8_hits 16 = .ok (.ifCond .ne 6, 3) := by decide +kernel
theorem dX8_hits_19 : decode cX8_hits 19 = .ok (.bipush (-102), 2) := by decide +kernel
theorem dX8_hits_21 : decode cX8_hits 21 = .ok (.ireturn, 1) := by decide +kernel
theorem dX8_hits_22 : decode cX8_hits 22 = .ok (.aload_n 0, 1) := by decide +kernel
theorem dX8_hits_23 : decode cX8_hits 23 = .ok (.iload_n 1, 1) := by decide +kernel
theorem dX8_hits_24 : decode cX8_hits 24 = .ok (.invokevirtual 120, 3) := by decide +kernel
theorem dX8_hits_27 : decode cX8_hits 27 = .ok (.iload_n 2, 1) := by decide +kernel
theorem dX8_hits_28 : decode cX8_hits 28 = .ok (.invokestatic 152, 3) := by decide +kernel
theorem dX8_hits_31 : decode cX8_hits 31 = .ok (.ifCond .eq 7, 3) := by decide +kernel
theorem dX8_hits_34 : decode cX8_hits 34 = .ok (.iconst 1, 1) := by decide +kernel
theorem dX8_hits_35 : decode cX8_hits 35 = .ok (.goto 4, 3) := by decide +kernel
theorem dX8_hits_38 : decode cX8_hits 38 = .ok (.iconst 0, 1) := by decide +kernel
theorem dX8_hits_39 : decode cX8_hits 39 = .ok (.ireturn, 1) := by decide +kernel
theorem dX8_toss_0 : decode cX8_toss 0 = .ok (.iload_n 1, 1) := by decide +kernel
theorem dX8_toss_1 : decode cX8_toss 1 = .ok (.ifCond .eq 11, 3) := by decide +kernel
theorem dX8_toss_4 : decode cX8_toss 4 = .ok (.iload_n 1, 1) := by decide +kernel
theorem dX8_toss_5 : decode cX8_toss 5 = .ok (.iconst 1, 1) := by decide +kernel
theorem dX8_toss_6 : decode cX8_toss 6 = .ok (.if_icmp .eq 6, 3) := by decide +kernel
theorem dX8_toss_9 : decode cX8_toss 9 = .ok (.bipush (-102), 2) := by decide +kernel
theorem dX8_toss_11 : decode cX8_toss 11 = .ok (.ireturn, 1) := by decide +kernel
theorem dX8_toss_12 : decode cX8_toss 12 = .ok (.aload_n 0, 1) := by decide +kernel
theorem dX8_toss_13 : decode cX8_toss 13 = .ok (.getfield 83, 3) := by decide +kernel
theorem dX8_toss_16 : decode cX8_toss 16 = .ok (.ifCond .ne 6, 3) := by decide +kernel
theorem dX8_toss_19 : decode cX8_toss 19 = .ok (.bipush (-103), 2) := by decide +kernel
theorem dX8_toss_21 : decode cX8_toss 21 = .ok (.ireturn, 1) := by decide +kernel
theorem dX8_toss_22 : decode cX8_toss 22 = .ok (.aload_n 0, 1) := by decide +kernel
theorem dX8_toss_23 : decode cX8_toss 23 = .ok (.getfield 19, 3) := by decide +kernel
theorem dX8_toss_26 : decode cX8_toss 26 = .ok (.getfield 156, 3) := by decide +kernel
theorem dX8_toss_29 : decode cX8_toss 29 = .ok (.sipush 9999, 3) := by decide +kernel
theorem dX8_toss_32 : decode cX8_toss 32 = .ok (.if_icmp .lt 6, 3) := by decide +kernel
theorem dX8_toss_35 : decode cX8_toss 35 = .ok (.bipush (-104), 2) := by decide +kernel
theorem dX8_toss_37 : decode cX8_toss 37 = .ok (.ireturn, 1) := by decide +kernel
theorem dX8_toss_38 : decode cX8_toss 38 = .ok (.aload_n 0, 1) := by decide +kernel
theorem dX8_toss_39 : decode cX8_toss 39 = .ok (.getfield 19, 3) := by decide +kernel
theorem dX8_toss_42 : decode cX8_toss 42 = .ok (.dup, 1) := by decide +kernel
theorem dX8_toss_43 : decode cX8_toss 43 = .ok (.getfield 156, 3) := by decide +kernel
theorem dX8_toss_46 : decode cX8_toss 46 = .ok (.iconst 1, 1) := by decide +kernel
theorem dX8_toss_47 : decode cX8_toss 47 = .ok (.iadd, 1) := by decide +kernel
theorem dX8_toss_48 : decode cX8_toss 48 = .ok (.putfield 156, 3) := by decide +kernel
theorem dX8_toss_51 : decode cX8_toss 51 = .ok (.aload_n 0, 1) := by decide +kernel
theorem dX8_toss_52 : decode cX8_toss 52 = .ok (.getfield 19, 3) := by decide +kernel
theorem dX8_toss_55 : decode cX8_toss 55 = .ok (.dup, 1) := by decide +kernel
theorem dX8_toss_56 : decode cX8_toss 56 = .ok (.getfield 159, 3) := by decide +kernel
theorem dX8_toss_59 : decode cX8_toss 59 = .ok (.iconst 1, 1) := by decide +kernel
theorem dX8_toss_60 : decode cX8_toss 60 = .ok (.iadd, 1) := by decide +kernel
theorem dX8_toss_61 : decode cX8_toss 61 = .ok (.putfield 159, 3) := by decide +kernel
theorem dX8_toss_64 : decode cX8_toss 64 = .ok (.aload_n 0, 1) := by decide +kernel
theorem dX8_toss_65 : decode cX8_toss 65 = .ok (.getfield 19, 3) := by decide +kernel
theorem dX8_toss_68 : decode cX8_toss 68 = .ok (.aload_n 0, 1) := by decide +kernel
theorem dX8_toss_69 : decode cX8_toss 69 = .ok (.aload_n 0, 1) := by decide +kernel
theorem dX8_toss_70 : decode cX8_toss 70 = .ok (.getfield 19, 3) := by decide +kernel
theorem dX8_toss_73 : decode cX8_toss 73 = .ok (.getfield 162, 3) := by decide +kernel
theorem dX8_toss_76 : decode cX8_toss 76 = .ok (.iload_n 1, 1) := by decide +kernel
theorem dX8_toss_77 : decode cX8_toss 77 = .ok (.invokevirtual 165, 3) := by decide +kernel
theorem dX8_toss_80 : decode cX8_toss 80 = .ok (.putfield 162, 3) := by decide +kernel
theorem dX8_toss_83 : decode cX8_toss 83 = .ok (.aload_n 0, 1) := by decide +kernel
theorem dX8_toss_84 : decode cX8_toss 84 = .ok (.aload_n 0, 1) := by decide +kernel
theorem dX8_toss_85 : decode cX8_toss 85 = .ok (.getfield 19, 3) := by decide +kernel
theorem dX8_toss_88 : decode cX8_toss 88 = .ok (.getfield 162, 3) := by decide +kernel
theorem dX8_toss_91 : decode cX8_toss 91 = .ok (.invokevirtual 168, 3) := by decide +kernel
theorem dX8_toss_94 : decode cX8_toss 94 = .ok (.istore_n 2, 1) := by decide +kernel
theorem dX8_toss_95 : decode cX8_toss 95 = .ok (.iload_n 2, 1) := by decide +kernel
theorem dX8_toss_96 : decode cX8_toss 96 = .ok (.ifCond .eq 21, 3) := by decide +kernel
theorem dX8_toss_99 : decode cX8_toss 99 = .ok (.iload_n 2, 1) := by decide +kernel
theorem dX8_toss_100 : decode cX8_toss 100 = .ok (.aload_n 0, 1) := by decide +kernel
theorem dX8_toss_101 : decode cX8_toss 101 = .ok (.getfield 19, 3) := by decide +kernel
theorem dX8_toss_104 : decode cX8_toss 104 = .ok (.getfield 117, 3) := by decide +kernel
theorem dX8_toss_107 : decode cX8_toss 107 = .ok (.invokestatic 171, 3) := by decide +kernel
theorem dX8_toss_110 : decode cX8_toss 110 = .ok (.aload_n 0, 1) := by decide +kernel
theorem dX8_toss_111 : decode cX8_toss 111 = .ok (.getfield 19, 3) := by decide +kernel
theorem dX8_toss_114 : decode cX8_toss 114 = .ok (.invokevirtual 175, 3) := by decide +kernel
theorem dX8_toss_117 : decode cX8_toss 117 = .ok (.iload_n 2, 1) := by decide +kernel
theorem dX8_toss_118 : decode cX8_toss 118 = .ok (.ireturn, 1) := by decide +kernel
theorem dX8_anew_0 : decode cX8_anew 0 = .ok (.aload_n 0, 1) := by decide +kernel
theorem dX8_anew_1 : decode cX8_anew 1 = .ok (.getfield 83, 3) := by decide +kernel
theorem dX8_anew_4 : decode cX8_anew 4 = .ok (.ifCond .ne 6, 3) := by decide +kernel
theorem dX8_anew_7 : decode cX8_anew 7 = .ok (.bipush (-103), 2) := by decide +kernel
theorem dX8_anew_9 : decode cX8_anew 9 = .ok (.ireturn, 1) := by decide +kernel
theorem dX8_anew_10 : decode cX8_anew 10 = .ok (.aload_n 0, 1) := by decide +kernel
theorem dX8_anew_11 : decode cX8_anew 11 = .ok (.getfield 19, 3) := by decide +kernel
theorem dX8_anew_14 : decode cX8_anew 14 = .ok (.getfield 159, 3) := by decide +kernel
theorem dX8_anew_17 : decode cX8_anew 17 = .ok (.istore_n 1, 1) := by decide +kernel
theorem dX8_anew_18 : decode cX8_anew 18 = .ok (.aload_n 0, 1) := by decide +kernel
theorem dX8_anew_19 : decode cX8_anew 19 = .ok (.getfield 19, 3) := by decide +kernel
theorem dX8_anew_22 : decode cX8_anew 22 = .ok (.invokevirtual 175, 3) := by decide +kernel
theorem dX8_anew_25 : decode cX8_anew 25 = .ok (.iload_n 1, 1) := by decide +kernel
theorem dX8_anew_26 : decode cX8_anew 26 = .ok (.ireturn, 1) := by decide +kernel
theorem dX8_bet_0 : decode cX8_bet 0 = .ok (.aload_n 0, 1) := by decide +kernel
theorem dX8_bet_1 : decode cX8_bet 1 = .ok (.iload_n 1, 1) := by decide +kernel
theorem dX8_bet_2 : decode cX8_bet 2 = .ok (.invokevirtual 113, 3) := by decide +kernel
theorem dX8_bet_5 : decode cX8_bet 5 = .ok (.ifCond .ne 6, 3) := by decide +kernel
theorem dX8_bet_8 : decode cX8_bet 8 = .ok (.bipush (-101), 2) := by decide +kernel
theorem dX8_bet_10 : decode cX8_bet 10 = .ok (.ireturn, 1) := by decide +kernel
theorem dX8_bet_11 : decode cX8_bet 11 = .ok (.aload_n 0, 1) := by decide +kernel
theorem dX8_bet_12 : decode cX8_bet 12 = .ok (.iload_n 2, 1) := by decide +kernel
theorem dX8_bet_13 : decode cX8_bet 13 = .ok (.invokevirtual 149, 3) := by decide +kernel
theorem dX8_bet_16 : decode cX8_bet 16 = .ok (.ifCond .ne 6, 3) := by decide +kernel
theorem dX8_bet_19 : decode cX8_bet 19 = .ok (.bipush (-102), 2) := by decide +kernel
theorem dX8_bet_21 : decode cX8_bet 21 = .ok (.ireturn, 1) := by decide +kernel
theorem dX8_bet_22 : decode cX8_bet 22 = .ok (.aload_n 0, 1) := by decide +kernel
theorem dX8_bet_23 : decode cX8_bet 23 = .ok (.getfield 19, 3) := by decide +kernel
theorem dX8_bet_26 : decode cX8_bet 26 = .ok (.getfield 100, 3) := by decide +kernel
theorem dX8_bet_29 : decode cX8_bet 29 = .ok (.iload_n 1, 1) := by decide +kernel
theorem dX8_bet_30 : decode cX8_bet 30 = .ok (.iaload, 1) := by decide +kernel
theorem dX8_bet_31 : decode cX8_bet 31 = .ok (.istore_n 3, 1) := by decide +kernel
theorem dX8_bet_32 : decode cX8_bet 32 = .ok (.aload_n 0, 1) := by decide +kernel
theorem dX8_bet_33 : decode cX8_bet 33 = .ok (.getfield 19, 3) := by decide +kernel
theorem dX8_bet_36 : decode cX8_bet 36 = .ok (.getfield 100, 3) := by decide +kernel
theorem dX8_bet_39 : decode cX8_bet 39 = .ok (.iload_n 1, 1) := by decide +kernel
theorem dX8_bet_40 : decode cX8_bet 40 = .ok (.iload_n 2, 1) := by decide +kernel
theorem dX8_bet_41 : decode cX8_bet 41 = .ok (.iastore, 1) := by decide +kernel
theorem dX8_bet_42 : decode cX8_bet 42 = .ok (.iload_n 3, 1) := by decide +kernel
theorem dX8_bet_43 : decode cX8_bet 43 = .ok (.ireturn, 1) := by decide +kernel
theorem dX8_be_0 : decode cX8_be 0 = .ok (.aload_n 0, 1) := by decide +kernel
theorem dX8_be_1 : decode cX8_be 1 = .ok (.iload_n 1, 1) := by decide +kernel
theorem dX8_be_2 : decode cX8_be 2 = .ok (.invokevirtual 113, 3) := by decide +kernel
theorem dX8_be_5 : decode cX8_be 5 = .ok (.ifCond .ne 6, 3) := by decide +kernel
theorem dX8_be_8 : decode cX8_be 8 = .ok (.bipush (-101), 2) := by decide +kernel
theorem dX8_be_10 : decode cX8_be 10 = .ok (.ireturn, 1) := by decide +kernel
theorem dX8_be_11 : decode cX8_be 11 = .ok (.aload_n 0, 1) := by decide +kernel
theorem dX8_be_12 : decode cX8_be 12 = .ok (.iload_n 2, 1) := by decide +kernel
theorem dX8_be_13 : decode cX8_be 13 = .ok (.invokevirtual 138, 3) := by decide +kernel
theorem dX8_be_16 : decode cX8_be 16 = .ok (.ifCond .ne 6, 3) := by decide +kernel
theorem dX8_be_19 : decode cX8_be 19 = .ok (.bipush (-102), 2) := by decide +kernel
theorem dX8_be_21 : decode cX8_be 21 = .ok (.ireturn, 1) := by decide +kernel
theorem dX8_be_22 : decode cX8_be 22 = .ok (.aload_n 0, 1) := by decide +kernel
theorem dX8_be_23 : decode cX8_be 23 = .ok (.getfield 19, 3) := by decide +kernel
theorem dX8_be_26 : decode cX8_be 26 = .ok (.getfield 93, 3) := by decide +kernel
theorem dX8_be_29 : decode cX8_be 29 = .ok (.iload_n 1, 1) := by decide +kernel
theorem dX8_be_30 : decode cX8_be 30 = .ok (.iaload, 1) := by decide +kernel
theorem dX8_be_31 : decode cX8_be 31 = .ok (.istore_n 3, 1) := by decide +kernel
theorem dX8_be_32 : decode cX8_be 32 = .ok (.aload_n 0, 1) := by decide +kernel
theorem dX8_be_33 : decode cX8_be 33 = .ok (.getfield 19, 3) := by decide +kernel
theorem dX8_be_36 : decode cX8_be 36 = .ok (.getfield 93, 3) := by decide +kernel
theorem dX8_be_39 : decode cX8_be 39 = .ok (.iload_n 1, 1) := by decide +kernel
theorem dX8_be_40 : decode cX8_be 40 = .ok (.iload_n 2, 1) := by decide +kernel
theorem dX8_be_41 : decode cX8_be 41 = .ok (.iastore, 1) := by decide +kernel
theorem dX8_be_42 : decode cX8_be 42 = .ok (.iload_n 3, 1) := by decide +kernel
theorem dX8_be_43 : decode cX8_be 43 = .ok (.ireturn, 1) := by decide +kernel
theorem dX8_duel_0 : decode cX8_duel 0 = .ok (.aload_n 0, 1) := by decide +kernel
theorem dX8_duel_1 : decode cX8_duel 1 = .ok (.iload_n 1, 1) := by decide +kernel
theorem dX8_duel_2 : decode cX8_duel 2 = .ok (.invokevirtual 113, 3) := by decide +kernel
theorem dX8_duel_5 : decode cX8_duel 5 = .ok (.ifCond .eq 16, 3) := by decide +kernel
theorem dX8_duel_8 : decode cX8_duel 8 = .ok (.aload_n 0, 1) := by decide +kernel
theorem dX8_duel_9 : decode cX8_duel 9 = .ok (.iload_n 2, 1) := by decide +kernel
theorem dX8_duel_10 : decode cX8_duel 10 = .ok (.invokevirtual 113, 3) := by decide +kernel
theorem dX8_duel_13 : decode cX8_duel 13 = .ok (.ifCond .eq 8, 3) := by decide +kernel
theorem dX8_duel_16 : decode cX8_duel 16 = .ok (.iload_n 1, 1) := by decide +kernel
theorem dX8_duel_17 : decode cX8_duel 17 = .ok (.iload_n 2, 1) := by decide +kernel
theorem dX8_duel_18 : decode cX8_duel 18 = .ok (.if_icmp .ne 6, 3) := by decide +kernel
theorem dX8_duel_21 : decode cX8_duel 21 = .ok (.bipush (-101), 2) := by decide +kernel
theorem dX8_duel_23 : decode cX8_duel 23 = .ok (.ireturn, 1) := by decide +kernel
theorem dX8_duel_24 : decode cX8_duel 24 = .ok (.aload_n 0, 1) := by decide +kernel
theorem dX8_duel_25 : decode cX8_duel 25 = .ok (.getfield 29, 3) := by decide +kernel
theorem dX8_duel_28 : decode cX8_duel 28 = .ok (.aload_n 0, 1) := by decide +kernel
theorem dX8_duel_29 : decode cX8_duel 29 = .ok (.iload_n 1, 1) := by decide +kernel
theorem dX8_duel_30 : decode cX8_duel 30 = .ok (.invokevirtual 120, 3) := by decide +kernel
theorem dX8_duel_33 : decode cX8_duel 33 = .ok (.aload_n 0, 1) := by decide +kernel
theorem dX8_duel_34 : decode cX8_duel 34 = .ok (.iload_n 2, 1) := by decide +kernel
theorem dX8_duel_35 : decode cX8_duel 35 = .ok (.invokevirtual 120, 3) := by decide +kernel
theorem dX8_duel_38 : decode cX8_duel 38 = .ok (.aload_n 0, 1) := by decide +kernel
theorem dX8_duel_39 : decode cX8_duel 39 = .ok (.getfield 90, 3) := by decide +kernel
theorem dX8_duel_42 : decode cX8_duel 42 = .ok (.invokevirtual 178, 3) := by decide +kernel
theorem dX8_duel_45 : decode cX8_duel 45 = .ok (.ireturn, 1) := by decide +kernel
theorem dX8_answer_0 : decode cX8_answer 0 = .ok (.aload_n 0, 1) := by decide +kernel
theorem dX8_answer_1 : decode cX8_answer 1 = .ok (.iload_n 1, 1) := by decide +kernel
theorem dX8_answer_2 : decode cX8_answer 2 = .ok (.invokevirtual 113, 3) := by decide +kernel
theorem dX8_answer_5 : decode cX8_answer 5 = .ok (.ifCond .ne 6, 3) := by decide +kernel
theorem dX8_answer_8 : decode cX8_answer 8 = .ok (.bipush (-101), 2) := by decide +kernel
theorem dX8_answer_10 : decode cX8_answer 10 = .ok (.ireturn, 1) := by decide +kernel
theorem dX8_answer_11 : decode cX8_answer 11 = .ok (.iload_n 2, 1) := by decide +kernel
theorem dX8_answer_12 : decode cX8_answer 12 = .ok (.ifCond .eq 11, 3) := by decide +kernel
theorem dX8_answer_15 : decode cX8_answer 15 = .ok (.iload_n 2, 1) := by decide +kernel
theorem dX8_answer_16 : decode cX8_answer 16 = .ok (.iconst 1, 1) := by decide +kernel
theorem dX8_answer_17 : decode cX8_answer 17 = .ok (.if_icmp .eq 6, 3) := by decide +kernel
theorem dX8_answer_20 : decode cX8_answer 20 = .ok (.bipush (-102), 2) := by decide +kernel
theorem dX8_answer_22 : decode cX8_answer 22 = .ok (.ireturn, 1) := by decide +kernel
theorem dX8_answer_23 : decode cX8_answer 23 = .ok (.aload_n 0, 1) := by decide +kernel
theorem dX8_answer_24 : decode cX8_answer 24 = .ok (.iload_n 1, 1) := by decide +kernel
theorem dX8_answer_25 : decode cX8_answer 25 = .ok (.invokevirtual 120, 3) := by decide +kernel
theorem dX8_answer_28 : decode cX8_answer 28 = .ok (.istore_n 3, 1) := by decide +kernel
theorem dX8_answer_29 : decode cX8_answer 29 = .ok (.aload_n 0, 1) := by decide +kernel
theorem dX8_answer_30 : decode cX8_answer 30 = .ok (.iload_n 3, 1) := by decide +kernel
theorem dX8_answer_31 : decode cX8_answer 31 = .ok (.invokevirtual 182, 3) := by decide +kernel
theorem dX8_answer_34 : decode cX8_answer 34 = .ok (.istore 4, 2) := by decide +kernel
theorem dX8_answer_36 : decode cX8_answer 36 = .ok (.iload_n 2, 1) := by decide +kernel
theorem dX8_answer_37 : decode cX8_answer 37 = .ok (.ifCond .ne 8, 3) := by decide +kernel
theorem dX8_answer_40 : decode cX8_answer 40 = .ok (.iload 4, 2) := by decide +kernel
theorem dX8_answer_42 : decode cX8_answer 42 = .ok (.goto 19, 3) := by decide +kernel
theorem dX8_answer_45 : decode cX8_answer 45 = .ok (.aload_n 0, 1) := by decide +kernel
theorem dX8_answer_46 : decode cX8_answer 46 = .ok (.getfield 29, 3) := by decide +kernel
theorem dX8_answer_49 : decode cX8_answer 49 = .ok (.iconst 1, 1) := by decide +kernel
theorem dX8_answer_50 : decode cX8_answer 50 = .ok (.iload 4, 2) := by decide +kernel
theorem dX8_answer_52 : decode cX8_answer 52 = .ok (.ishl, 1) := by decide +kernel
theorem dX8_answer_53 : decode cX8_answer 53 = .ok (.iload_n 3, 1) := by decide +kernel
theorem dX8_answer_54 : decode cX8_answer 54 = .ok (.aload_n 0, 1) := by decide +kernel
theorem dX8_answer_55 : decode cX8_answer 55 = .ok (.getfield 90, 3) := by decide +kernel
theorem dX8_answer_58 : decode cX8_answer 58 = .ok (.invokevirtual 178, 3) := by decide +kernel
theorem dX8_answer_61 : decode cX8_answer 61 = .ok (.ireturn, 1) := by decide +kernel
theorem dX8_open_0 : decode cX8_open 0 = .ok (.iload_n 1, 1) := by decide +kernel
theorem dX8_open_1 : decode cX8_open 1 = .ok (.ifCond .eq 11, 3) := by decide +kernel
theorem dX8_open_4 : decode cX8_open 4 = .ok (.iload_n 1, 1) := by decide +kernel
theorem dX8_open_5 : decode cX8_open 5 = .ok (.iconst 1, 1) := by decide +kernel
theorem dX8_open_6 : decode cX8_open 6 = .ok (.if_icmp .eq 6, 3) := by decide +kernel
theorem dX8_open_9 : decode cX8_open 9 = .ok (.bipush (-102), 2) := by decide +kernel
theorem dX8_open_11 : decode cX8_open 11 = .ok (.ireturn, 1) := by decide +kernel
theorem dX8_open_12 : decode cX8_open 12 = .ok (.aload_n 0, 1) := by decide +kernel
theorem dX8_open_13 : decode cX8_open 13 = .ok (.getfield 83, 3) := by decide +kernel
theorem dX8_open_16 : decode cX8_open 16 = .ok (.ifCond .ne 6, 3) := by decide +kernel
theorem dX8_open_19 : decode cX8_open 19 = .ok (.bipush (-103), 2) := by decide +kernel
theorem dX8_open_21 : decode cX8_open 21 = .ok (.ireturn, 1) := by decide +kernel
theorem dX8_open_22 : decode cX8_open 22 = .ok (.aload_n 0, 1) := by decide +kernel
theorem dX8_open_23 : decode cX8_open 23 = .ok (.invokevirtual 185, 3) := by decide +kernel
theorem dX8_open_26 : decode cX8_open 26 = .ok (.istore_n 2, 1) := by decide +kernel
theorem dX8_open_27 : decode cX8_open 27 = .ok (.iload_n 1, 1) := by decide +kernel
theorem dX8_open_28 : decode cX8_open 28 = .ok (.ifCond .ne 7, 3) := by decide +kernel
theorem dX8_open_31 : decode cX8_open 31 = .ok (.iload_n 2, 1) := by decide +kernel
theorem dX8_open_32 : decode cX8_open 32 = .ok (.goto 8, 3) := by decide +kernel
theorem dX8_open_35 : decode cX8_open 35 = .ok (.aload_n 0, 1) := by decide +kernel
theorem dX8_open_36 : decode cX8_open 36 = .ok (.iload_n 2, 1) := by decide +kernel
theorem dX8_open_37 : decode cX8_open 37 = .ok (.invokevirtual 188, 3) := by decide +kernel
theorem dX8_open_40 : decode cX8_open 40 = .ok (.ireturn, 1) := by decide +kernel
theorem dX8_ring_0 : decode cX8_ring 0 = .ok (.aload_n 0, 1) := by decide +kernel
theorem dX8_ring_1 : decode cX8_ring 1 = .ok (.getfield 83, 3) := by decide +kernel
theorem dX8_ring_4 : decode cX8_ring 4 = .ok (.ifCond .ne 6, 3) := by decide +kernel
theorem dX8_ring_7 : decode cX8_ring 7 = .ok (.bipush (-103), 2) := by decide +kernel
theorem dX8_ring_9 : decode cX8_ring 9 = .ok (.ireturn, 1) := by decide +kernel
theorem dX8_ring_10 : decode cX8_ring 10 = .ok (.aload_n 0, 1) := by decide +kernel
theorem dX8_ring_11 : decode cX8_ring 11 = .ok (.invokevirtual 191, 3) := by decide +kernel
theorem dX8_ring_14 : decode cX8_ring 14 = .ok (.istore_n 1, 1) := by decide +kernel
theorem dX8_ring_15 : decode cX8_ring 15 = .ok (.iconst 3, 1) := by decide +kernel
theorem dX8_ring_16 : decode cX8_ring 16 = .ok (.istore_n 2, 1) := by decide +kernel
theorem dX8_ring_17 : decode cX8_ring 17 = .ok (.iload_n 2, 1) := by decide +kernel
theorem dX8_ring_18 : decode cX8_ring 18 = .ok (.aload_n 0, 1) := by decide +kernel
theorem dX8_ring_19 : decode cX8_ring 19 = .ok (.getfield 83, 3) := by decide +kernel
theorem dX8_ring_22 : decode cX8_ring 22 = .ok (.if_icmp .gt 45, 3) := by decide +kernel
theorem dX8_ring_25 : decode cX8_ring 25 = .ok (.iconst 0, 1) := by decide +kernel
theorem dX8_ring_26 : decode cX8_ring 26 = .ok (.istore_n 3, 1) := by decide +kernel
theorem dX8_ring_27 : decode cX8_ring 27 = .ok (.iload_n 3, 1) := by decide +kernel
theorem dX8_ring_28 : decode cX8_ring 28 = .ok (.iconst 1, 1) := by decide +kernel
theorem dX8_ring_29 : decode cX8_ring 29 = .ok (.aload_n 0, 1) := by decide +kernel
theorem dX8_ring_30 : decode cX8_ring 30 = .ok (.getfield 83, 3) := by decide +kernel
theorem dX8_ring_33 : decode cX8_ring 33 = .ok (.ishl, 1) := by decide +kernel
theorem dX8_ring_34 : decode cX8_ring 34 = .ok (.if_icmp .ge 27, 3) := by decide +kernel
theorem dX8_ring_37 : decode cX8_ring 37 = .ok (.iload_n 3, 1) := by decide +kernel
theorem dX8_ring_38 : decode cX8_ring 38 = .ok (.invokestatic 127, 3) := by decide +kernel
theorem dX8_ring_41 : decode cX8_ring 41 = .ok (.iload_n 2, 1) := by decide +kernel
theorem dX8_ring_42 : decode cX8_ring 42 = .ok (.if_icmp .ne 13, 3) := by decide +kernel
theorem dX8_ring_45 : decode cX8_ring 45 = .ok (.iload_n 3, 1) := by decide +kernel
theorem dX8_ring_46 : decode cX8_ring 46 = .ok (.iload_n 1, 1) := by decide +kernel
theorem dX8_ring_47 : decode cX8_ring 47 = .ok (.invokestatic 194, 3) := by decide +kernel
theorem dX8_ring_50 : decode cX8_ring 50 = .ok (.ifCond .eq 5, 3) := by decide +kernel
theorem dX8_ring_53 : decode cX8_ring 53 = .ok (.iload_n 3, 1) := by decide +kernel
theorem dX8_ring_54 : decode cX8_ring 54 = .ok (.ireturn, 1) := by decide +kernel
theorem dX8_ring_55 : decode cX8_ring 55 = .ok (.iinc 3 1, 3) := by decide +kernel
theorem dX8_ring_58 : decode cX8_ring 58 = .ok (.goto (-31), 3) := by decide +kernel
theorem dX8_ring_61 : decode cX8_ring 61 = .ok (.iinc 2 1, 3) := by decide +kernel
theorem dX8_ring_64 : decode cX8_ring 64 = .ok (.goto (-47), 3) := by decide +kernel
theorem dX8_ring_67 : decode cX8_ring 67 = .ok (.iconst 0, 1) := by decide +kernel
theorem dX8_ring_68 : decode cX8_ring 68 = .ok (.ireturn, 1) := by decide +kernel
theorem dX8_odds_0 : decode cX8_odds 0 = .ok (.aload_n 0, 1) := by decide +kernel
theorem dX8_odds_1 : decode cX8_odds 1 = .ok (.iload_n 1, 1) := by decide +kernel
theorem dX8_odds_2 : decode cX8_odds 2 = .ok (.invokevirtual 113, 3) := by decide +kernel
theorem dX8_odds_5 : decode cX8_odds 5 = .ok (.ifCond .ne 6, 3) := by decide +kernel
theorem dX8_odds_8 : decode cX8_odds 8 = .ok (.bipush (-101), 2) := by decide +kernel
theorem dX8_odds_10 : decode cX8_odds 10 = .ok (.ireturn, 1) := by decide +kernel
theorem dX8_odds_11 : decode cX8_odds 11 = .ok (.iload_n 2, 1) := by decide +kernel
theorem dX8_odds_12 : decode cX8_odds 12 = .ok (.iconst 1, 1) := by decide +kernel
theorem dX8_odds_13 : decode cX8_odds 13 = .ok (.if_icmp .lt 18, 3) := by decide +kernel
theorem dX8_odds_16 : decode cX8_odds 16 = .ok (.iload_n 2, 1) := by decide +kernel
theorem dX8_odds_17 : decode cX8_odds 17 = .ok (.bipush 20, 2) := by decide +kernel
theorem dX8_odds_19 : decode cX8_odds 19 = .ok (.if_icmp .gt 12, 3) := by decide +kernel
theorem dX8_odds_22 : decode cX8_odds 22 = .ok (.iload_n 3, 1) := by decide +kernel
theorem dX8_odds_23 : decode cX8_odds 23 = .ok (.ifCond .lt 8, 3) := by decide +kernel
theorem dX8_odds_26 : decode cX8_odds 26 = .ok (.iload_n 3, 1) := by decide +kernel
theorem dX8_odds_27 : decode cX8_odds 27 = .ok (.iconst 1, 1) := by decide +kernel
theorem dX8_odds_28 : decode cX8_odds 28 = .ok (.if_icmp .le 6, 3) := by decide +kernel
theorem dX8_odds_31 : decode cX8_odds 31 = .ok (.bipush (-102), 2) := by decide +kernel
theorem dX8_odds_33 : decode cX8_odds 33 = .ok (.ireturn, 1) := by decide +kernel
theorem dX8_odds_34 : decode cX8_odds 34 = .ok (.aload_n 0, 1) := by decide +kernel
theorem dX8_odds_35 : decode cX8_odds 35 = .ok (.iload_n 1, 1) := by decide +kernel
theorem dX8_odds_36 : decode cX8_odds 36 = .ok (.iload_n 2, 1) := by decide +kernel
theorem dX8_odds_37 : decode cX8_odds 37 = .ok (.invokevirtual 197, 3) := by decide +kernel
theorem dX8_odds_40 : decode cX8_odds 40 = .ok (.istore 4, 2) := by decide +kernel
theorem dX8_odds_42 : decode cX8_odds 42 = .ok (.iload_n 2, 1) := by decide +kernel
theorem dX8_odds_43 : decode cX8_odds 43 = .ok (.istore 5, 2) := by decide +kernel
theorem dX8_odds_45 : decode cX8_odds 45 = .ok (.iload 5, 2) := by decide +kernel
theorem dX8_odds_47 : decode cX8_odds 47 = .ok (.ifCond .le 22, 3) := by decide +kernel
theorem dX8_odds_50 : decode cX8_odds 50 = .ok (.iload 4, 2) := by decide +kernel
theorem dX8_odds_52 : decode cX8_odds 52 = .ok (.iconst 1, 1) := by decide +kernel
theorem dX8_odds_53 : decode cX8_odds 53 = .ok (.iand, 1) := by decide +kernel
theorem dX8_odds_54 : decode cX8_odds 54 = .ok (.ifCond .ne 15, 3) := by decide +kernel
theorem dX8_odds_57 : decode cX8_odds 57 = .ok (.iload 4, 2) := by decide +kernel
theorem dX8_odds_59 : decode cX8_odds 59 = .ok (.iconst 1, 1) := by decide +kernel
theorem dX8_odds_60 : decode cX8_odds 60 = .ok (.ishr, 1) := by decide +kernel
theorem dX8_odds_61 : decode cX8_odds 61 = .ok (.istore 4, 2) := by decide +kernel
theorem dX8_odds_63 : decode cX8_odds 63 = .ok (.iinc 5 (-1), 3) := by decide +kernel
theorem dX8_odds_66 : decode cX8_odds 66 = .ok (.goto (-21), 3) := by decide +kernel
theorem dX8_odds_69 : decode cX8_odds 69 = .ok (.iload_n 3, 1) := by decide +kernel
theorem dX8_odds_70 : decode cX8_odds 70 = .ok (.ifCond .ne 8, 3) := by decide +kernel
theorem dX8_odds_73 : decode cX8_odds 73 = .ok (.iload 4, 2) := by decide +kernel
theorem dX8_odds_75 : decode cX8_odds 75 = .ok (.goto 7, 3) := by decide +kernel
theorem dX8_odds_78 : decode cX8_odds 78 = .ok (.iconst 1, 1) := by decide +kernel
theorem dX8_odds_79 : decode cX8_odds 79 = .ok (.iload 5, 2) := by decide +kernel
theorem dX8_odds_81 : decode cX8_odds 81 = .ok (.ishl, 1) := by decide +kernel
theorem dX8_odds_82 : decode cX8_odds 82 = .ok (.ireturn, 1) := by decide +kernel
theorem dX8_see_0 : decode cX8_see 0 = .ok (.aload_n 0, 1) := by decide +kernel
theorem dX8_see_1 : decode cX8_see 1 = .ok (.iload_n 1, 1) := by decide +kernel
theorem dX8_see_2 : decode cX8_see 2 = .ok (.invokevirtual 113, 3) := by decide +kernel
theorem dX8_see_5 : decode cX8_see 5 = .ok (.ifCond .ne 6, 3) := by decide +kernel
theorem dX8_see_8 : decode cX8_see 8 = .ok (.bipush (-101), 2) := by decide +kernel
theorem dX8_see_10 : decode cX8_see 10 = .ok (.ireturn, 1) := by decide +kernel
theorem dX8_see_11 : decode cX8_see 11 = .ok (.aload_n 0, 1) := by decide +kernel
theorem dX8_see_12 : decode cX8_see 12 = .ok (.iload_n 2, 1) := by decide +kernel
theorem dX8_see_13 : decode cX8_see 13 = .ok (.invokevirtual 149, 3) := by decide +kernel
theorem dX8_see_16 : decode cX8_see 16 = .ok (.ifCond .ne 6, 3) := by decide +kernel
theorem dX8_see_19 : decode cX8_see 19 = .ok (.bipush (-102), 2) := by decide +kernel
theorem dX8_see_21 : decode cX8_see 21 = .ok (.ireturn, 1) := by decide +kernel
theorem dX8_see_22 : decode cX8_see 22 = .ok (.aload_n 0, 1) := by decide +kernel
theorem dX8_see_23 : decode cX8_see 23 = .ok (.getfield 19, 3) := by decide +kernel
theorem dX8_see_26 : decode cX8_see 26 = .ok (.getfield 200, 3) := by decide +kernel
theorem dX8_see_29 : decode cX8_see 29 = .ok (.bipush 6, 2) := by decide +kernel
theorem dX8_see_31 : decode cX8_see 31 = .ok (.if_icmp .lt 6, 3) := by decide +kernel
theorem dX8_see_34 : decode cX8_see 34 = .ok (.bipush (-104), 2) := by decide +kernel
theorem dX8_see_36 : decode cX8_see 36 = .ok (.ireturn, 1) := by decide +kernel
theorem dX8_see_37 : decode cX8_see 37 = .ok (.aload_n 0, 1) := by decide +kernel
theorem dX8_see_38 : decode cX8_see 38 = .ok (.getfield 19, 3) := by decide +kernel
theorem dX8_see_41 : decode cX8_see 41 = .ok (.iload_n 1, 1) := by decide +kernel
theorem dX8_see_42 : decode cX8_see 42 = .ok (.iload_n 2, 1) := by decide +kernel
theorem dX8_see_43 : decode cX8_see 43 = .ok (.iload_n 3, 1) := by decide +kernel
theorem dX8_see_44 : decode cX8_see 44 = .ok (.invokevirtual 203, 3) := by decide +kernel
theorem dX8_see_47 : decode cX8_see 47 = .ok (.aload_n 0, 1) := by decide +kernel
theorem dX8_see_48 : decode cX8_see 48 = .ok (.getfield 19, 3) := by decide +kernel
theorem dX8_see_51 : decode cX8_see 51 = .ok (.getfield 200, 3) := by decide +kernel
theorem dX8_see_54 : decode cX8_see 54 = .ok (.ireturn, 1) := by decide +kernel
theorem dX8_forget_0 : decode cX8_forget 0 = .ok (.aload_n 0, 1) := by decide +kernel
theorem dX8_forget_1 : decode cX8_forget 1 = .ok (.getfield 19, 3) := by decide +kernel
theorem dX8_forget_4 : decode cX8_forget 4 = .ok (.getfield 200, 3) := by decide +kernel
theorem dX8_forget_7 : decode cX8_forget 7 = .ok (.istore_n 1, 1) := by decide +kernel
theorem dX8_forget_8 : decode cX8_forget 8 = .ok (.aload_n 0, 1) := by decide +kernel
theorem dX8_forget_9 : decode cX8_forget 9 = .ok (.getfield 19, 3) := by decide +kernel
theorem dX8_forget_12 : decode cX8_forget 12 = .ok (.iconst 0, 1) := by decide +kernel
theorem dX8_forget_13 : decode cX8_forget 13 = .ok (.putfield 200, 3) := by decide +kernel
theorem dX8_forget_16 : decode cX8_forget 16 = .ok (.iload_n 1, 1) := by decide +kernel
theorem dX8_forget_17 : decode cX8_forget 17 = .ok (.ireturn, 1) := by decide +kernel
theorem dX8_games_0 : decode cX8_games 0 = .ok (.iload_n 1, 1) := by decide +kernel
theorem dX8_games_1 : decode cX8_games 1 = .ok (.iconst 1, 1) := by decide +kernel
theorem dX8_games_2 : decode cX8_games 2 = .ok (.if_icmp .lt 22, 3) := by decide +kernel
theorem dX8_games_5 : decode cX8_games 5 = .ok (.iload_n 1, 1) := by decide +kernel
theorem dX8_games_6 : decode cX8_games 6 = .ok (.bipush 99, 2) := by decide +kernel
theorem dX8_games_8 : decode cX8_games 8 = .ok (.if_icmp .gt 16, 3) := by decide +kernel
theorem dX8_games_11 : decode cX8_games 11 = .ok (.iload_n 2, 1) := by decide +kernel
theorem dX8_games_12 : decode cX8_games 12 = .ok (.ifCond .lt 12, 3) := by decide +kernel
theorem dX8_games_15 : decode cX8_games 15 = .ok (.iload_n 3, 1) := by decide +kernel
theorem dX8_games_16 : decode cX8_games 16 = .ok (.ifCond .lt 8, 3) := by decide +kernel
theorem dX8_games_19 : decode cX8_games 19 = .ok (.iload_n 3, 1) := by decide +kernel
theorem dX8_games_20 : decode cX8_games 20 = .ok (.iconst 2, 1) := by decide +kernel
theorem dX8_games_21 : decode cX8_games 21 = .ok (.if_icmp .le 6, 3) := by decide +kernel
theorem dX8_games_24 : decode cX8_games 24 = .ok (.bipush (-102), 2) := by decide +kernel
theorem dX8_games_26 : decode cX8_games 26 = .ok (.ireturn, 1) := by decide +kernel
theorem dX8_games_27 : decode cX8_games 27 = .ok (.aload_n 0, 1) := by decide +kernel
theorem dX8_games_28 : decode cX8_games 28 = .ok (.getfield 83, 3) := by decide +kernel
theorem dX8_games_31 : decode cX8_games 31 = .ok (.ifCond .ne 6, 3) := by decide +kernel
theorem dX8_games_34 : decode cX8_games 34 = .ok (.bipush (-103), 2) := by decide +kernel
theorem dX8_games_36 : decode cX8_games 36 = .ok (.ireturn, 1) := by decide +kernel
theorem dX8_games_37 : decode cX8_games 37 = .ok (.aload_n 0, 1) := by decide +kernel
theorem dX8_games_38 : decode cX8_games 38 = .ok (.getfield 52, 3) := by decide +kernel
theorem dX8_games_41 : decode cX8_games 41 = .ok (.iconst 0, 1) := by decide +kernel
theorem dX8_games_42 : decode cX8_games 42 = .ok (.invokestatic 207, 3) := by decide +kernel
theorem dX8_games_45 : decode cX8_games 45 = .ok (.iconst 0, 1) := by decide +kernel
theorem dX8_games_46 : decode cX8_games 46 = .ok (.istore 4, 2) := by decide +kernel
theorem dX8_games_48 : decode cX8_games 48 = .ok (.iload_n 2, 1) := by decide +kernel
theorem dX8_games_49 : decode cX8_games 49 = .ok (.istore 5, 2) := by decide +kernel
theorem dX8_games_51 : decode cX8_games 51 = .ok (.aload_n 0, 1) := by decide +kernel
theorem dX8_games_52 : decode cX8_games 52 = .ok (.getfield 19, 3) := by decide +kernel
theorem dX8_games_55 : decode cX8_games 55 = .ok (.getfield 162, 3) := by decide +kernel
theorem dX8_games_58 : decode cX8_games 58 = .ok (.istore 6, 2) := by decide +kernel
theorem dX8_games_60 : decode cX8_games 60 = .ok (.iconst 0, 1) := by decide +kernel
theorem dX8_games_61 : decode cX8_games 61 = .ok (.istore 7, 2) := by decide +kernel
theorem dX8_games_63 : decode cX8_games 63 = .ok (.iload 7, 2) := by decide +kernel
theorem dX8_games_65 : decode cX8_games 65 = .ok (.iload_n 1, 1) := by decide +kernel
theorem dX8_games_66 : decode cX8_games 66 = .ok (.if_icmp .ge 59, 3) := by decide +kernel
theorem dX8_games_69 : decode cX8_games 69 = .ok (.iload 5, 2) := by decide +kernel
theorem dX8_games_71 : decode cX8_games 71 = .ok (.invokestatic 213, 3) := by decide +kernel
theorem dX8_games_74 : decode cX8_games 74 = .ok (.istore 5, 2) := by decide +kernel
theorem dX8_games_76 : decode cX8_games 76 = .ok (.aload_n 0, 1) := by decide +kernel
theorem dX8_games_77 : decode cX8_games 77 = .ok (.iload 6, 2) := by decide +kernel
theorem dX8_games_79 : decode cX8_games 79 = .ok (.iload 5, 2) := by decide +kernel
theorem dX8_games_81 : decode cX8_games 81 = .ok (.ldc 216, 2) := by decide +kernel
theorem dX8_games_83 : decode cX8_games 83 = .ok (.idiv, 1) := by decide +kernel
theorem dX8_games_84 : decode cX8_games 84 = .ok (.iconst 2, 1) := by decide +kernel
theorem dX8_games_85 : decode cX8_games 85 = .ok (.irem, 1) := by decide +kernel
theorem dX8_games_86 : decode cX8_games 86 = .ok (.invokevirtual 165, 3) := by decide +kernel
theorem dX8_games_89 : decode cX8_games 89 = .ok (.istore 6, 2) := by decide +kernel
theorem dX8_games_91 : decode cX8_games 91 = .ok (.aload_n 0, 1) := by decide +kernel
theorem dX8_games_92 : decode cX8_games 92 = .ok (.iload 6, 2) := by decide +kernel
theorem dX8_games_94 : decode cX8_games 94 = .ok (.invokevirtual 168, 3) := by decide +kernel
theorem dX8_games_97 : decode cX8_games 97 = .ok (.istore 8, 2) := by decide +kernel
theorem dX8_games_99 : decode cX8_games 99 = .ok (.iload 8, 2) := by decide +kernel
theorem dX8_games_101 : decode cX8_games 101 = .ok (.ifCond .eq 18, 3) := by decide +kernel
theorem dX8_games_104 : decode cX8_games 104 = .ok (.iinc 4 1, 3) := by decide +kernel
theorem dX8_games_107 : decode cX8_games 107 = .ok (.iload 8, 2) := by decide +kernel
theorem dX8_games_109 : decode cX8_games 109 = .ok (.aload_n 0, 1) := by decide +kernel
theorem dX8_games_110 : decode cX8_games 110 = .ok (.getfield 52, 3) := by decide +kernel
theorem dX8_games_113 : decode cX8_games 113 = .ok (.invokestatic 171, 3) := by decide +kernel
theorem dX8_games_116 : decode cX8_games 116 = .ok (.iconst 1, 1) := by decide +kernel
theorem dX8_games_117 : decode cX8_games 117 = .ok (.istore 6, 2) := by decide +kernel
theorem dX8_games_119 : decode cX8_games 119 = .ok (.iinc 7 1, 3) := by decide +kernel
theorem dX8_games_122 : decode cX8_games 122 = .ok (.goto (-59), 3) := by decide +kernel
theorem dX8_games_125 : decode cX8_games 125 = .ok (.iload_n 3, 1) := by decide +kernel
theorem dX8_games_126 : decode cX8_games 126 = .ok (.ifCond .ne 8, 3) := by decide +kernel
theorem dX8_games_129 : decode cX8_games 129 = .ok (.iload 4, 2) := by decide +kernel
theorem dX8_games_131 : decode cX8_games 131 = .ok (.goto 17, 3) := by decide +kernel
theorem dX8_games_134 : decode cX8_games 134 = .ok (.iload_n 3, 1) := by decide +kernel
theorem dX8_games_135 : decode cX8_games 135 = .ok (.iconst 1, 1) := by decide +kernel
theorem dX8_games_136 : decode cX8_games 136 = .ok (.if_icmp .ne 10, 3) := by decide +kernel
theorem dX8_games_139 : decode cX8_games 139 = .ok (.aload_n 0, 1) := by decide +kernel
theorem dX8_games_140 : decode cX8_games 140 = .ok (.invokevirtual 217, 3) := by decide +kernel
theorem dX8_games_143 : decode cX8_games 143 = .ok (.goto 5, 3) := by decide +kernel
theorem dX8_games_146 : decode cX8_games 146 = .ok (.iload 5, 2) := by decide +kernel
theorem dX8_games_148 : decode cX8_games 148 = .ok (.ireturn, 1) := by decide +kernel
theorem dX8_image_0 : decode cX8_image 0 = .ok (.aload_n 0, 1) := by decide +kernel
theorem dX8_image_1 : decode cX8_image 1 = .ok (.getfield 83, 3) := by decide +kernel
theorem dX8_image_4 : decode cX8_image 4 = .ok (.ifCond .ne 6, 3) := by decide +kernel
theorem dX8_image_7 : decode cX8_image 7 = .ok (.bipush (-103), 2) := by decide +kernel
theorem dX8_image_9 : decode cX8_image 9 = .ok (.ireturn, 1) := by decide +kernel
theorem dX8_image_10 : decode cX8_image 10 = .ok (.aload_n 0, 1) := by decide +kernel
theorem dX8_image_11 : decode cX8_image 11 = .ok (.getfield 23, 3) := by decide +kernel
theorem dX8_image_14 : decode cX8_image 14 = .ok (.aload_n 0, 1) := by decide +kernel
theorem dX8_image_15 : decode cX8_image 15 = .ok (.getfield 19, 3) := by decide +kernel
theorem dX8_image_18 : decode cX8_image 18 = .ok (.invokevirtual 220, 3) := by decide +kernel
theorem dX8_image_21 : decode cX8_image 21 = .ok (.aload_n 0, 1) := by decide +kernel
theorem dX8_image_22 : decode cX8_image 22 = .ok (.iconst 1, 1) := by decide +kernel
theorem dX8_image_23 : decode cX8_image 23 = .ok (.putfield 106, 3) := by decide +kernel
theorem dX8_image_26 : decode cX8_image 26 = .ok (.aload_n 0, 1) := by decide +kernel
theorem dX8_image_27 : decode cX8_image 27 = .ok (.getfield 19, 3) := by decide +kernel
theorem dX8_image_30 : decode cX8_image 30 = .ok (.getfield 156, 3) := by decide +kernel
theorem dX8_image_33 : decode cX8_image 33 = .ok (.ireturn, 1) := by decide +kernel
theorem dX8_restore_0 : decode cX8_restore 0 = .ok (.aload_n 0, 1) := by decide +kernel
theorem dX8_restore_1 : decode cX8_restore 1 = .ok (.getfield 106, 3) := by decide +kernel
theorem dX8_restore_4 : decode cX8_restore 4 = .ok (.ifCond .ne 6, 3) := by decide +kernel
theorem dX8_restore_7 : decode cX8_restore 7 = .ok (.bipush (-103), 2) := by decide +kernel
theorem dX8_restore_9 : decode cX8_restore 9 = .ok (.ireturn, 1) := by decide +kernel
theorem dX8_restore_10 : decode cX8_restore 10 = .ok (.aload_n 0, 1) := by decide +kernel
theorem dX8_restore_11 : decode cX8_restore 11 = .ok (.getfield 19, 3) := by decide +kernel
theorem dX8_restore_14 : decode cX8_restore 14 = .ok (.aload_n 0, 1) := by decide +kernel
theorem dX8_restore_15 : decode cX8_restore 15 = .ok (.getfield 23, 3) := by decide +kernel
theorem dX8_restore_18 : decode cX8_restore 18 = .ok (.invokevirtual 220, 3) := by decide +kernel
theorem dX8_restore_21 : decode cX8_restore 21 = .ok (.aload_n 0, 1) := by decide +kernel
theorem dX8_restore_22 : decode cX8_restore 22 = .ok (.getfield 19, 3) := by decide +kernel
theorem dX8_restore_25 : decode cX8_restore 25 = .ok (.getfield 156, 3) := by decide +kernel
theorem dX8_restore_28 : decode cX8_restore 28 = .ok (.ireturn, 1) := by decide +kernel
theorem dX8_count_0 : decode cX8_count 0 = .ok (.iload_n 1, 1) := by decide +kernel
theorem dX8_count_1 : decode cX8_count 1 = .ok (.tableswitch 118 0 8 #[51, 56, 61, 69, 77, 89, 97, 105, 113], 51) := by decide +kernel
theorem dX8_count_52 : decode cX8_count 52 = .ok (.aload_n 0, 1) := by decide +kernel
theorem dX8_count_53 : decode cX8_count 53 = .ok (.getfield 83, 3) := by decide +kernel
theorem dX8_count_56 : decode cX8_count 56 = .ok (.ireturn, 1) := by decide +kernel
theorem dX8_count_57 : decode cX8_count 57 = .ok (.aload_n 0, 1) := by decide +kernel
theorem dX8_count_58 : decode cX8_count 58 = .ok (.getfield 90, 3) := by decide +kernel
theorem dX8_count_61 : decode cX8_count 61 = .ok (.ireturn, 1) := by decide +kernel
theorem dX8_count_62 : decode cX8_count 62 = .ok (.aload_n 0, 1) := by decide +kernel
theorem dX8_count_63 : decode cX8_count 63 = .ok (.getfield 19, 3) := by decide +kernel
theorem dX8_count_66 : decode cX8_count 66 = .ok (.getfield 159, 3) := by decide +kernel
theorem dX8_count_69 : decode cX8_count 69 = .ok (.ireturn, 1) := by decide +kernel
theorem dX8_count_70 : decode cX8_count 70 = .ok (.aload_n 0, 1) := by decide +kernel
theorem dX8_count_71 : decode cX8_count 71 = .ok (.getfield 19, 3) := by decide +kernel
theorem dX8_count_74 : decode cX8_count 74 = .ok (.getfield 156, 3) := by decide +kernel
theorem dX8_count_77 : decode cX8_count 77 = .ok (.ireturn, 1) := by decide +kernel
theorem dX8_count_78 : decode cX8_count 78 = .ok (.aload_n 0, 1) := by decide +kernel
theorem dX8_count_79 : decode cX8_count 79 = .ok (.aload_n 0, 1) := by decide +kernel
theorem dX8_count_80 : decode cX8_count 80 = .ok (.getfield 19, 3) := by decide +kernel
theorem dX8_count_83 : decode cX8_count 83 = .ok (.getfield 162, 3) := by decide +kernel
theorem dX8_count_86 : decode cX8_count 86 = .ok (.invokevirtual 224, 3) := by decide +kernel
theorem dX8_count_89 : decode cX8_count 89 = .ok (.ireturn, 1) := by decide +kernel
theorem dX8_count_90 : decode cX8_count 90 = .ok (.aload_n 0, 1) := by decide +kernel
theorem dX8_count_91 : decode cX8_count 91 = .ok (.getfield 19, 3) := by decide +kernel
theorem dX8_count_94 : decode cX8_count 94 = .ok (.invokevirtual 227, 3) := by decide +kernel
theorem dX8_count_97 : decode cX8_count 97 = .ok (.ireturn, 1) := by decide +kernel
theorem dX8_count_98 : decode cX8_count 98 = .ok (.aload_n 0, 1) := by decide +kernel
theorem dX8_count_99 : decode cX8_count 99 = .ok (.getfield 19, 3) := by decide +kernel
theorem dX8_count_102 : decode cX8_count 102 = .ok (.getfield 200, 3) := by decide +kernel
theorem dX8_count_105 : decode cX8_count 105 = .ok (.ireturn, 1) := by decide +kernel
theorem dX8_count_106 : decode cX8_count 106 = .ok (.aload_n 0, 1) := by decide +kernel
theorem dX8_count_107 : decode cX8_count 107 = .ok (.getfield 12, 3) := by decide +kernel
theorem dX8_count_110 : decode cX8_count 110 = .ok (.invokevirtual 70, 3) := by decide +kernel
theorem dX8_count_113 : decode cX8_count 113 = .ok (.ireturn, 1) := by decide +kernel
theorem dX8_count_114 : decode cX8_count 114 = .ok (.aload_n 0, 1) := by decide +kernel
theorem dX8_count_115 : decode cX8_count 115 = .ok (.getfield 110, 3) := by decide +kernel
theorem dX8_count_118 : decode cX8_count 118 = .ok (.ireturn, 1) := by decide +kernel
theorem dX8_count_119 : decode cX8_count 119 = .ok (.bipush (-102), 2) := by decide +kernel
theorem dX8_count_121 : decode cX8_count 121 = .ok (.ireturn, 1) := by decide +kernel
theorem dX8_digest_0 : decode cX8_digest 0 = .ok (.ldc2_w 230, 3) := by decide +kernel
theorem dX8_digest_3 : decode cX8_digest 3 = .ok (.lstore_n 1, 1) := by decide +kernel
theorem dX8_digest_4 : decode cX8_digest 4 = .ok (.iconst 0, 1) := by decide +kernel
theorem dX8_digest_5 : decode cX8_digest 5 = .ok (.istore_n 3, 1) := by decide +kernel
theorem dX8_digest_6 : decode cX8_digest 6 = .ok (.iload_n 3, 1) := by decide +kernel
theorem dX8_digest_7 : decode cX8_digest 7 = .ok (.aload_n 0, 1) := by decide +kernel
theorem dX8_digest_8 : decode cX8_digest 8 = .ok (.getfield 83, 3) := by decide +kernel
theorem dX8_digest_11 : decode cX8_digest 11 = .ok (.if_icmp .ge 86, 3) := by decide +kernel
theorem dX8_digest_14 : decode cX8_digest 14 = .ok (.iconst 0, 1) := by decide +kernel
theorem dX8_digest_15 : decode cX8_digest 15 = .ok (.istore 4, 2) := by decide +kernel
theorem dX8_digest_17 : decode cX8_digest 17 = .ok (.iload 4, 2) := by decide +kernel
theorem dX8_digest_19 : decode cX8_digest 19 = .ok (.bipush 6, 2) := by decide +kernel
theorem dX8_digest_21 : decode cX8_digest 21 = .ok (.if_icmp .gt 22, 3) := by decide +kernel
theorem dX8_digest_24 : decode cX8_digest 24 = .ok (.lload_n 1, 1) := by decide +kernel
theorem dX8_digest_25 : decode cX8_digest 25 = .ok (.aload_n 0, 1) := by decide +kernel
theorem dX8_digest_26 : decode cX8_digest 26 = .ok (.iload_n 3, 1) := by decide +kernel
theorem dX8_digest_27 : decode cX8_digest 27 = .ok (.iload 4, 2) := by decide +kernel
theorem dX8_digest_29 : decode cX8_digest 29 = .ok (.invokevirtual 232, 3) := by decide +kernel
theorem dX8_digest_32 : decode cX8_digest 32 = .ok (.i2l, 1) := by decide +kernel
theorem dX8_digest_33 : decode cX8_digest 33 = .ok (.invokestatic 235, 3) := by decide +kernel
theorem dX8_digest_36 : decode cX8_digest 36 = .ok (.lstore_n 1, 1) := by decide +kernel
theorem dX8_digest_37 : decode cX8_digest 37 = .ok (.iinc 4 1, 3) := by decide +kernel
theorem dX8_digest_40 : decode cX8_digest 40 = .ok (.goto (-23), 3) := by decide +kernel
theorem dX8_digest_43 : decode cX8_digest 43 = .ok (.lload_n 1, 1) := by decide +kernel
theorem dX8_digest_44 : decode cX8_digest 44 = .ok (.aload_n 0, 1) := by decide +kernel
theorem dX8_digest_45 : decode cX8_digest 45 = .ok (.iload_n 3, 1) := by decide +kernel
theorem dX8_digest_46 : decode cX8_digest 46 = .ok (.iconst 0, 1) := by decide +kernel
theorem dX8_digest_47 : decode cX8_digest 47 = .ok (.invokevirtual 239, 3) := by decide +kernel
theorem dX8_digest_50 : decode cX8_digest 50 = .ok (.i2l, 1) := by decide +kernel
theorem dX8_digest_51 : decode cX8_digest 51 = .ok (.invokestatic 235, 3) := by decide +kernel
theorem dX8_digest_54 : decode cX8_digest 54 = .ok (.aload_n 0, 1) := by decide +kernel
theorem dX8_digest_55 : decode cX8_digest 55 = .ok (.iload_n 3, 1) := by decide +kernel
theorem dX8_digest_56 : decode cX8_digest 56 = .ok (.iconst 1, 1) := by decide +kernel
theorem dX8_digest_57 : decode cX8_digest 57 = .ok (.invokevirtual 239, 3) := by decide +kernel
theorem dX8_digest_60 : decode cX8_digest 60 = .ok (.i2l, 1) := by decide +kernel
theorem dX8_digest_61 : decode cX8_digest 61 = .ok (.invokestatic 235, 3) := by decide +kernel
theorem dX8_digest_64 : decode cX8_digest 64 = .ok (.lstore_n 1, 1) := by decide +kernel
theorem dX8_digest_65 : decode cX8_digest 65 = .ok (.lload_n 1, 1) := by decide +kernel
theorem dX8_digest_66 : decode cX8_digest 66 = .ok (.aload_n 0, 1) := by decide +kernel
theorem dX8_digest_67 : decode cX8_digest 67 = .ok (.iload_n 3, 1) := by decide +kernel
theorem dX8_digest_68 : decode cX8_digest 68 = .ok (.bipush 9, 2) := by decide +kernel
theorem dX8_digest_70 : decode cX8_digest 70 = .ok (.iconst 0, 1) := by decide +kernel
theorem dX8_digest_71 : decode cX8_digest 71 = .ok (.invokevirtual 242, 3) := by decide +kernel
theorem dX8_digest_74 : decode cX8_digest 74 = .ok (.i2l, 1) := by decide +kernel
theorem dX8_digest_75 : decode cX8_digest 75 = .ok (.invokestatic 235, 3) := by decide +kernel
theorem dX8_digest_78 : decode cX8_digest 78 = .ok (.aload_n 0, 1) := by decide +kernel
theorem dX8_digest_79 : decode cX8_digest 79 = .ok (.iload_n 3, 1) := by decide +kernel
theorem dX8_digest_80 : decode cX8_digest 80 = .ok (.bipush 9, 2) := by decide +kernel
theorem dX8_digest_82 : decode cX8_digest 82 = .ok (.iconst 1, 1) := by decide +kernel
theorem dX8_digest_83 : decode cX8_digest 83 = .ok (.invokevirtual 242, 3) := by decide +kernel
theorem dX8_digest_86 : decode cX8_digest 86 = .ok (.i2l, 1) := by decide +kernel
theorem dX8_digest_87 : decode cX8_digest 87 = .ok (.invokestatic 235, 3) := by decide +kernel
theorem dX8_digest_90 : decode cX8_digest 90 = .ok (.lstore_n 1, 1) := by decide +kernel
theorem dX8_digest_91 : decode cX8_digest 91 = .ok (.iinc 3 1, 3) := by decide +kernel
theorem dX8_digest_94 : decode cX8_digest 94 = .ok (.goto (-88), 3) := by decide +kernel
theorem dX8_digest_97 : decode cX8_digest 97 = .ok (.lload_n 1, 1) := by decide +kernel
theorem dX8_digest_98 : decode cX8_digest 98 = .ok (.aload_n 0, 1) := by decide +kernel
theorem dX8_digest_99 : decode cX8_digest 99 = .ok (.iconst 0, 1) := by decide +kernel
theorem dX8_digest_100 : decode cX8_digest 100 = .ok (.iconst 1, 1) := by decide +kernel
theorem dX8_digest_101 : decode cX8_digest 101 = .ok (.invokevirtual 245, 3) := by decide +kernel
theorem dX8_digest_104 : decode cX8_digest 104 = .ok (.i2l, 1) := by decide +kernel
theorem dX8_digest_105 : decode cX8_digest 105 = .ok (.invokestatic 235, 3) := by decide +kernel
theorem dX8_digest_108 : decode cX8_digest 108 = .ok (.aload_n 0, 1) := by decide +kernel
theorem dX8_digest_109 : decode cX8_digest 109 = .ok (.iconst 1, 1) := by decide +kernel
theorem dX8_digest_110 : decode cX8_digest 110 = .ok (.iconst 0, 1) := by decide +kernel
theorem dX8_digest_111 : decode cX8_digest 111 = .ok (.invokevirtual 245, 3) := by decide +kernel
theorem dX8_digest_114 : decode cX8_digest 114 = .ok (.i2l, 1) := by decide +kernel
theorem dX8_digest_115 : decode cX8_digest 115 = .ok (.invokestatic 235, 3) := by decide +kernel
theorem dX8_digest_118 : decode cX8_digest 118 = .ok (.lstore_n 1, 1) := by decide +kernel
theorem dX8_digest_119 : decode cX8_digest 119 = .ok (.aload_n 0, 1) := by decide +kernel
theorem dX8_digest_120 : decode cX8_digest 120 = .ok (.getfield 83, 3) := by decide +kernel
theorem dX8_digest_123 : decode cX8_digest 123 = .ok (.ifCond .le 13, 3) := by decide +kernel
theorem dX8_digest_126 : decode cX8_digest 126 = .ok (.lload_n 1, 1) := by decide +kernel
theorem dX8_digest_127 : decode cX8_digest 127 = .ok (.aload_n 0, 1) := by decide +kernel
theorem dX8_digest_128 : decode cX8_digest 128 = .ok (.invokevirtual 248, 3) := by decide +kernel
theorem dX8_digest_131 : decode cX8_digest 131 = .ok (.i2l, 1) := by decide +kernel
theorem dX8_digest_132 : decode cX8_digest 132 = .ok (.invokestatic 235, 3) := by decide +kernel
theorem dX8_digest_135 : decode cX8_digest 135 = .ok (.lstore_n 1, 1) := by decide +kernel
theorem dX8_digest_136 : decode cX8_digest 136 = .ok (.iconst 0, 1) := by decide +kernel
theorem dX8_digest_137 : decode cX8_digest 137 = .ok (.istore_n 3, 1) := by decide +kernel
theorem dX8_digest_138 : decode cX8_digest 138 = .ok (.iload_n 3, 1) := by decide +kernel
theorem dX8_digest_139 : decode cX8_digest 139 = .ok (.aload_n 0, 1) := by decide +kernel
theorem dX8_digest_140 : decode cX8_digest 140 = .ok (.getfield 12, 3) := by decide +kernel
theorem dX8_digest_143 : decode cX8_digest 143 = .ok (.invokevirtual 70, 3) := by decide +kernel
theorem dX8_digest_146 : decode cX8_digest 146 = .ok (.if_icmp .ge 23, 3) := by decide +kernel
theorem dX8_digest_149 : decode cX8_digest 149 = .ok (.lload_n 1, 1) := by decide +kernel
theorem dX8_digest_150 : decode cX8_digest 150 = .ok (.aload_n 0, 1) := by decide +kernel
theorem dX8_digest_151 : decode cX8_digest 151 = .ok (.getfield 12, 3) := by decide +kernel
theorem dX8_digest_154 : decode cX8_digest 154 = .ok (.iload_n 3, 1) := by decide +kernel
theorem dX8_digest_155 : decode cX8_digest 155 = .ok (.invokevirtual 251, 3) := by decide +kernel
theorem dX8_digest_158 : decode cX8_digest 158 = .ok (.i2l, 1) := by decide +kernel
theorem dX8_digest_159 : decode cX8_digest 159 = .ok (.invokestatic 235, 3) := by decide +kernel
theorem dX8_digest_162 : decode cX8_digest 162 = .ok (.lstore_n 1, 1) := by decide +kernel
theorem dX8_digest_163 : decode cX8_digest 163 = .ok (.iinc 3 1, 3) := by decide +kernel
theorem dX8_digest_166 : decode cX8_digest 166 = .ok (.goto (-28), 3) := by decide +kernel
theorem dX8_digest_169 : decode cX8_digest 169 = .ok (.iconst 0, 1) := by decide +kernel
theorem dX8_digest_170 : decode cX8_digest 170 = .ok (.istore_n 3, 1) := by decide +kernel
theorem dX8_digest_171 : decode cX8_digest 171 = .ok (.iload_n 3, 1) := by decide +kernel
theorem dX8_digest_172 : decode cX8_digest 172 = .ok (.bipush 8, 2) := by decide +kernel
theorem dX8_digest_174 : decode cX8_digest 174 = .ok (.if_icmp .gt 20, 3) := by decide +kernel
theorem dX8_digest_177 : decode cX8_digest 177 = .ok (.lload_n 1, 1) := by decide +kernel
theorem dX8_digest_178 : decode cX8_digest 178 = .ok (.aload_n 0, 1) := by decide +kernel
theorem dX8_digest_179 : decode cX8_digest 179 = .ok (.iload_n 3, 1) := by decide +kernel
theorem dX8_digest_180 : decode cX8_digest 180 = .ok (.invokevirtual 255, 3) := by decide +kernel
theorem dX8_digest_183 : decode cX8_digest 183 = .ok (.i2l, 1) := by decide +kernel
theorem dX8_digest_184 : decode cX8_digest 184 = .ok (.invokestatic 235, 3) := by decide +kernel
theorem dX8_digest_187 : decode cX8_digest 187 = .ok (.lstore_n 1, 1) := by decide +kernel
theorem dX8_digest_188 : decode cX8_digest 188 = .ok (.iinc 3 1, 3) := by decide +kernel
theorem dX8_digest_191 : decode cX8_digest 191 = .ok (.goto (-20), 3) := by decide +kernel
theorem dX8_digest_194 : decode cX8_digest 194 = .ok (.lload_n 1, 1) := by decide +kernel
theorem dX8_digest_195 : decode cX8_digest 195 = .ok (.lreturn, 1) := by decide +kernel
theorem dX8_with_0 : decode cX8_with 0 = .ok (.ldc2_w 258, 3) := by decide +kernel
theorem dX8_with_3 : decode cX8_with 3 = .ok (.lload_n 0, 1) := by decide +kernel
theorem dX8_with_4 : decode cX8_with 4 = .ok (.lmul, 1) := by decide +kernel
theorem dX8_with_5 : decode cX8_with 5 = .ok (.lload_n 2, 1) := by decide +kernel
theorem dX8_with_6 : decode cX8_with 6 = .ok (.ladd, 1) := by decide +kernel
theorem dX8_with_7 : decode cX8_with 7 = .ok (.lreturn, 1) := by decide +kernel
theorem dX8_isPlayer_0 : decode cX8_isPlayer 0 = .ok (.iload_n 1, 1) := by decide +kernel
theorem dX8_isPlayer_1 : decode cX8_isPlayer 1 = .ok (.ifCond .lt 20, 3) := by decide +kernel
theorem dX8_isPlayer_4 : decode cX8_isPlayer 4 = .ok (.iload_n 1, 1) := by decide +kernel
theorem dX8_isPlayer_5 : decode cX8_isPlayer 5 = .ok (.aload_n 0, 1) := by decide +kernel
theorem dX8_isPlayer_6 : decode cX8_isPlayer 6 = .ok (.getfield 83, 3) := by decide +kernel
theorem dX8_isPlayer_9 : decode cX8_isPlayer 9 = .ok (.if_icmp .ge 12, 3) := by decide +kernel
theorem dX8_isPlayer_12 : decode cX8_isPlayer 12 = .ok (.iload_n 1, 1) := by decide +kernel
theorem dX8_isPlayer_13 : decode cX8_isPlayer 13 = .ok (.iconst 4, 1) := by decide +kernel
theorem dX8_isPlayer_14 : decode cX8_isPlayer 14 = .ok (.if_icmp .ge 7, 3) := by decide +kernel
theorem dX8_isPlayer_17 : decode cX8_isPlayer 17 = .ok (.iconst 1, 1) := by decide +kernel
theorem dX8_isPlayer_18 : decode cX8_isPlayer 18 = .ok (.goto 4, 3) := by decide +kernel
theorem dX8_isPlayer_21 : decode cX8_isPlayer 21 = .ok (.iconst 0, 1) := by decide +kernel
theorem dX8_isPlayer_22 : decode cX8_isPlayer 22 = .ok (.ireturn, 1) := by decide +kernel
theorem dX8_isRow_0 : decode cX8_isRow 0 = .ok (.iload_n 1, 1) := by decide +kernel
theorem dX8_isRow_1 : decode cX8_isRow 1 = .ok (.ifCond .lt 17, 3) := by decide +kernel
theorem dX8_isRow_4 : decode cX8_isRow 4 = .ok (.iload_n 1, 1) := by decide +kernel
theorem dX8_isRow_5 : decode cX8_isRow 5 = .ok (.iconst 1, 1) := by decide +kernel
theorem dX8_isRow_6 : decode cX8_isRow 6 = .ok (.aload_n 0, 1) := by decide +kernel
theorem dX8_isRow_7 : decode cX8_isRow 7 = .ok (.getfield 90, 3) := by decide +kernel
theorem dX8_isRow_10 : decode cX8_isRow 10 = .ok (.ishl, 1) := by decide +kernel
theorem dX8_isRow_11 : decode cX8_isRow 11 = .ok (.if_icmp .ge 7, 3) := by decide +kernel
theorem dX8_isRow_14 : decode cX8_isRow 14 = .ok (.iconst 1, 1) := by decide +kernel
theorem dX8_isRow_15 : decode cX8_isRow 15 = .ok (.goto 4, 3) := by decide +kernel
theorem dX8_isRow_18 : decode cX8_isRow 18 = .ok (.iconst 0, 1) := by decide +kernel
theorem dX8_isRow_19 : decode cX8_isRow 19 = .ok (.ireturn, 1) := by decide +kernel
theorem dX8_isKind_0 : decode cX8_isKind 0 = .ok (.iload_n 1, 1) := by decide +kernel
theorem dX8_isKind_1 : decode cX8_isKind 1 = .ok (.ifCond .lt 16, 3) := by decide +kernel
theorem dX8_isKind_4 : decode cX8_isKind 4 = .ok (.iload_n 1, 1) := by decide +kernel
theorem dX8_isKind_5 : decode cX8_isKind 5 = .ok (.aload_n 0, 1) := by decide +kernel
theorem dX8_isKind_6 : decode cX8_isKind 6 = .ok (.getfield 48, 3) := by decide +kernel
theorem dX8_isKind_9 : decode cX8_isKind 9 = .ok (.arraylength, 1) := by decide +kernel
theorem dX8_isKind_10 : decode cX8_isKind 10 = .ok (.if_icmp .ge 7, 3) := by decide +kernel
theorem dX8_isKind_13 : decode cX8_isKind 13 = .ok (.iconst 1, 1) := by decide +kernel
theorem dX8_isKind_14 : decode cX8_isKind 14 = .ok (.goto 4, 3) := by decide +kernel
theorem dX8_isKind_17 : decode cX8_isKind 17 = .ok (.iconst 0, 1) := by decide +kernel
theorem dX8_isKind_18 : decode cX8_isKind 18 = .ok (.ireturn, 1) := by decide +kernel
theorem dX8_kindAt_0 : decode cX8_kindAt 0 = .ok (.aload_n 0, 1) := by decide +kernel
theorem dX8_kindAt_1 : decode cX8_kindAt 1 = .ok (.iload_n 1, 1) := by decide +kernel
theorem dX8_kindAt_2 : decode cX8_kindAt 2 = .ok (.invokevirtual 138, 3) := by decide +kernel
theorem dX8_kindAt_5 : decode cX8_kindAt 5 = .ok (.ifCond .eq 12, 3) := by decide +kernel
theorem dX8_kindAt_8 : decode cX8_kindAt 8 = .ok (.aload_n 0, 1) := by decide +kernel
theorem dX8_kindAt_9 : decode cX8_kindAt 9 = .ok (.getfield 48, 3) := by decide +kernel
theorem dX8_kindAt_12 : decode cX8_kindAt 12 = .ok (.iload_n 1, 1) := by decide +kernel
theorem dX8_kindAt_13 : decode cX8_kindAt 13 = .ok (.aaload, 1) := by decide +kernel
theorem dX8_kindAt_14 : decode cX8_kindAt 14 = .ok (.goto 9, 3) := by decide +kernel
theorem dX8_kindAt_17 : decode cX8_kindAt 17 = .ok (.aload_n 0, 1) := by decide +kernel
theorem dX8_kindAt_18 : decode cX8_kindAt 18 = .ok (.getfield 48, 3) := by decide +kernel
theorem dX8_kindAt_21 : decode cX8_kindAt 21 = .ok (.iconst 0, 1) := by decide +kernel
theorem dX8_kindAt_22 : decode cX8_kindAt 22 = .ok (.aaload, 1) := by decide +kernel
theorem dX8_kindAt_23 : decode cX8_kindAt 23 = .ok (.areturn, 1) := by decide +kernel
theorem dX8_isSuch_0 : decode cX8_isSuch 0 = .ok (.iload_n 1, 1) := by decide +kernel
theorem dX8_isSuch_1 : decode cX8_isSuch 1 = .ok (.tableswitch 57 0 4 #[35, 37, 42, 47, 52], 35) := by decide +kernel
theorem dX8_isSuch_36 : decode cX8_isSuch 36 = .ok (.iconst 1, 1) := by decide +kernel
theorem dX8_isSuch_37 : decode cX8_isSuch 37 = .ok (.ireturn, 1) := by decide +kernel
theorem dX8_isSuch_38 : decode cX8_isSuch 38 = .ok (.aload_n 0, 1) := by decide +kernel
theorem dX8_isSuch_39 : decode cX8_isSuch 39 = .ok (.instanceof 36, 3) := by decide +kernel
theorem dX8_isSuch_42 : decode cX8_isSuch 42 = .ok (.ireturn, 1) := by decide +kernel
theorem dX8_isSuch_43 : decode cX8_isSuch 43 = .ok (.aload_n 0, 1) := by decide +kernel
theorem dX8_isSuch_44 : decode cX8_isSuch 44 = .ok (.instanceof 39, 3) := by decide +kernel
theorem dX8_isSuch_47 : decode cX8_isSuch 47 = .ok (.ireturn, 1) := by decide +kernel
theorem dX8_isSuch_48 : decode cX8_isSuch 48 = .ok (.aload_n 0, 1) := by decide +kernel
theorem dX8_isSuch_49 : decode cX8_isSuch 49 = .ok (.instanceof 42, 3) := by decide +kernel
theorem dX8_isSuch_52 : decode cX8_isSuch 52 = .ok (.ireturn, 1) := by decide +kernel
theorem dX8_isSuch_53 : decode cX8_isSuch 53 = .ok (.aload_n 0, 1) := by decide +kernel
theorem dX8_isSuch_54 : decode cX8_isSuch 54 = .ok (.instanceof 45, 3) := by decide +kernel
theorem dX8_isSuch_57 : decode cX8_isSuch 57 = .ok (.ireturn, 1) := by decide +kernel
theorem dX8_isSuch_58 : decode cX8_isSuch 58 = .ok (.iconst 0, 1) := by decide +kernel
theorem dX8_isSuch_59 : decode cX8_isSuch 59 = .ok (.ireturn, 1) := by decide +kernel
theorem dX8_rowsHitBy_0 : decode cX8_rowsHitBy 0 = .ok (.aload_n 0, 1) := by decide +kernel
theorem dX8_rowsHitBy_1 : decode cX8_rowsHitBy 1 = .ok (.iload_n 1, 1) := by decide +kernel
theorem dX8_rowsHitBy_2 : decode cX8_rowsHitBy 2 = .ok (.invokevirtual 113, 3) := by decide +kernel
theorem dX8_rowsHitBy_5 : decode cX8_rowsHitBy 5 = .ok (.ifCond .eq 35, 3) := by decide +kernel
theorem dX8_rowsHitBy_8 : decode cX8_rowsHitBy 8 = .ok (.aload_n 0, 1) := by decide +kernel
theorem dX8_rowsHitBy_9 : decode cX8_rowsHitBy 9 = .ok (.aload_n 0, 1) := by decide +kernel
theorem dX8_rowsHitBy_10 : decode cX8_rowsHitBy 10 = .ok (.getfield 19, 3) := by decide +kernel
theorem dX8_rowsHitBy_13 : decode cX8_rowsHitBy 13 = .ok (.getfield 93, 3) := by decide +kernel
theorem dX8_rowsHitBy_16 : decode cX8_rowsHitBy 16 = .ok (.iload_n 1, 1) := by decide +kernel
theorem dX8_rowsHitBy_17 : decode cX8_rowsHitBy 17 = .ok (.iaload, 1) := by decide +kernel
theorem dX8_rowsHitBy_18 : decode cX8_rowsHitBy 18 = .ok (.invokevirtual 141, 3) := by decide +kernel
theorem dX8_rowsHitBy_21 : decode cX8_rowsHitBy 21 = .ok (.aload_n 0, 1) := by decide +kernel
theorem dX8_rowsHitBy_22 : decode cX8_rowsHitBy 22 = .ok (.getfield 19, 3) := by decide +kernel
theorem dX8_rowsHitBy_25 : decode cX8_rowsHitBy 25 = .ok (.getfield 100, 3) := by decide +kernel
theorem dX8_rowsHitBy_28 : decode cX8_rowsHitBy 28 = .ok (.iload_n 1, 1) := by decide +kernel
theorem dX8_rowsHitBy_29 : decode cX8_rowsHitBy 29 = .ok (.iaload, 1) := by decide +kernel
theorem dX8_rowsHitBy_30 : decode cX8_rowsHitBy 30 = .ok (.aload_n 0, 1) := by decide +kernel
theorem dX8_rowsHitBy_31 : decode cX8_rowsHitBy 31 = .ok (.getfield 90, 3) := by decide +kernel
theorem dX8_rowsHitBy_34 : decode cX8_rowsHitBy 34 = .ok (.invokevirtual 260, 3) := by decide +kernel
theorem dX8_rowsHitBy_37 : decode cX8_rowsHitBy 37 = .ok (.goto 4, 3) := by decide +kernel
theorem dX8_rowsHitBy_40 : decode cX8_rowsHitBy 40 = .ok (.iconst 0, 1) := by decide +kernel
theorem dX8_rowsHitBy_41 : decode cX8_rowsHitBy 41 = .ok (.ireturn, 1) := by decide +kernel
theorem dX8_has_0 : decode cX8_has 0 = .ok (.iload_n 0, 1) := by decide +kernel
theorem dX8_has_1 : decode cX8_has 1 = .ok (.iload_n 1, 1) := by decide +kernel
theorem dX8_has_2 : decode cX8_has 2 = .ok (.ishr, 1) := by decide +kernel
theorem dX8_has_3 : decode cX8_has 3 = .ok (.iconst 1, 1) := by decide +kernel
theorem dX8_has_4 : decode cX8_has 4 = .ok (.iand, 1) := by decide +kernel
theorem dX8_has_5 : decode cX8_has 5 = .ok (.iconst 1, 1) := by decide +kernel
theorem dX8_has_6 : decode cX8_has 6 = .ok (.if_icmp .ne 7, 3) := by decide +kernel
theorem dX8_has_9 : decode cX8_has 9 = .ok (.iconst 1, 1) := by decide +kernel
theorem dX8_has_10 : decode cX8_has 10 = .ok (.goto 4, 3) := by decide +kernel
theorem dX8_has_13 : decode cX8_has 13 = .ok (.iconst 0, 1) := by decide +kernel
theorem dX8_has_14 : decode cX8_has 14 = .ok (.ireturn, 1) := by decide +kernel
theorem dX8_trackBehind_0 : decode cX8_trackBehind 0 = .ok (.iconst 2, 1) := by decide +kernel
theorem dX8_trackBehind_1 : decode cX8_trackBehind 1 = .ok (.iload_n 1, 1) := by decide +kernel
theorem dX8_trackBehind_2 : decode cX8_trackBehind 2 = .ok (.imul, 1) := by decide +kernel
theorem dX8_trackBehind_3 : decode cX8_trackBehind 3 = .ok (.iload_n 2, 1) := by decide +kernel
theorem dX8_trackBehind_4 : decode cX8_trackBehind 4 = .ok (.iadd, 1) := by decide +kernel
theorem dX8_trackBehind_5 : decode cX8_trackBehind 5 = .ok (.istore_n 3, 1) := by decide +kernel
theorem dX8_trackBehind_6 : decode cX8_trackBehind 6 = .ok (.iconst 1, 1) := by decide +kernel
theorem dX8_trackBehind_7 : decode cX8_trackBehind 7 = .ok (.aload_n 0, 1) := by decide +kernel
theorem dX8_trackBehind_8 : decode cX8_trackBehind 8 = .ok (.getfield 90, 3) := by decide +kernel
theorem dX8_trackBehind_11 : decode cX8_trackBehind 11 = .ok (.ishl, 1) := by decide +kernel
theorem dX8_trackBehind_12 : decode cX8_trackBehind 12 = .ok (.istore 4, 2) := by decide +kernel
theorem dX8_trackBehind_14 : decode cX8_trackBehind 14 = .ok (.iload_n 3, 1) := by decide +kernel
theorem dX8_trackBehind_15 : decode cX8_trackBehind 15 = .ok (.iconst 2, 1) := by decide +kernel
theorem dX8_trackBehind_16 : decode cX8_trackBehind 16 = .ok (.iload 4, 2) := by decide +kernel
theorem dX8_trackBehind_18 : decode cX8_trackBehind 18 = .ok (.imul, 1) := by decide +kernel
theorem dX8_trackBehind_19 : decode cX8_trackBehind 19 = .ok (.if_icmp .ge 7, 3) := by decide +kernel
theorem dX8_trackBehind_22 : decode cX8_trackBehind 22 = .ok (.iload_n 3, 1) := by decide +kernel
theorem dX8_trackBehind_23 : decode cX8_trackBehind 23 = .ok (.goto 12, 3) := by decide +kernel
theorem dX8_trackBehind_26 : decode cX8_trackBehind 26 = .ok (.iload 4, 2) := by decide +kernel
theorem dX8_trackBehind_28 : decode cX8_trackBehind 28 = .ok (.iload_n 3, 1) := by decide +kernel
theorem dX8_trackBehind_29 : decode cX8_trackBehind 29 = .ok (.iload 4, 2) := by decide +kernel
theorem dX8_trackBehind_31 : decode cX8_trackBehind 31 = .ok (.iconst 1, 1) := by decide +kernel
theorem dX8_trackBehind_32 : decode cX8_trackBehind 32 = .ok (.isub, 1) := by decide +kernel
theorem dX8_trackBehind_33 : decode cX8_trackBehind 33 = .ok (.iand, 1) := by decide +kernel
theorem dX8_trackBehind_34 : decode cX8_trackBehind 34 = .ok (.iadd, 1) := by decide +kernel
theorem dX8_trackBehind_35 : decode cX8_trackBehind 35 = .ok (.ireturn, 1) := by decide +kernel
theorem dX8_tailOf_0 : decode cX8_tailOf 0 = .ok (.iconst 1, 1) := by decide +kernel
theorem dX8_tailOf_1 : decode cX8_tailOf 1 = .ok (.aload_n 0, 1) := by decide +kernel
theorem dX8_tailOf_2 : decode cX8_tailOf 2 = .ok (.getfield 90, 3) := by decide +kernel
theorem dX8_tailOf_5 : decode cX8_tailOf 5 = .ok (.ishl, 1) := by decide +kernel
theorem dX8_tailOf_6 : decode cX8_tailOf 6 = .ok (.istore_n 2, 1) := by decide +kernel
theorem dX8_tailOf_7 : decode cX8_tailOf 7 = .ok (.aload_n 0, 1) := by decide +kernel
theorem dX8_tailOf_8 : decode cX8_tailOf 8 = .ok (.getfield 83, 3) := by decide +kernel
theorem dX8_tailOf_11 : decode cX8_tailOf 11 = .ok (.ifCond .le 14, 3) := by decide +kernel
theorem dX8_tailOf_14 : decode cX8_tailOf 14 = .ok (.iload_n 1, 1) := by decide +kernel
theorem dX8_tailOf_15 : decode cX8_tailOf 15 = .ok (.iload_n 2, 1) := by decide +kernel
theorem dX8_tailOf_16 : decode cX8_tailOf 16 = .ok (.if_icmp .lt 9, 3) := by decide +kernel
theorem dX8_tailOf_19 : decode cX8_tailOf 19 = .ok (.iload_n 1, 1) := by decide +kernel
theorem dX8_tailOf_20 : decode cX8_tailOf 20 = .ok (.iload_n 2, 1) := by decide +kernel
theorem dX8_tailOf_21 : decode cX8_tailOf 21 = .ok (.isub, 1) := by decide +kernel
theorem dX8_tailOf_22 : decode cX8_tailOf 22 = .ok (.goto 4, 3) := by decide +kernel
theorem dX8_tailOf_25 : decode cX8_tailOf 25 = .ok (.iconst (-1), 1) := by decide +kernel
theorem dX8_tailOf_26 : decode cX8_tailOf 26 = .ok (.ireturn, 1) := by decide +kernel
theorem dX8_hittersAt_0 : decode cX8_hittersAt 0 = .ok (.aload_n 0, 1) := by decide +kernel
theorem dX8_hittersAt_1 : decode cX8_hittersAt 1 = .ok (.iload_n 1, 1) := by decide +kernel
theorem dX8_hittersAt_2 : decode cX8_hittersAt 2 = .ok (.invokevirtual 224, 3) := by decide +kernel
theorem dX8_hittersAt_5 : decode cX8_hittersAt 5 = .ok (.istore_n 2, 1) := by decide +kernel
theorem dX8_hittersAt_6 : decode cX8_hittersAt 6 = .ok (.iload_n 2, 1) := by decide +kernel
theorem dX8_hittersAt_7 : decode cX8_hittersAt 7 = .ok (.iconst (-1), 1) := by decide +kernel
theorem dX8_hittersAt_8 : decode cX8_hittersAt 8 = .ok (.if_icmp .ne 5, 3) := by decide +kernel
theorem dX8_hittersAt_11 : decode cX8_hittersAt 11 = .ok (.iconst 0, 1) := by decide +kernel
theorem dX8_hittersAt_12 : decode cX8_hittersAt 12 = .ok (.ireturn, 1) := by decide +kernel
theorem dX8_hittersAt_13 : decode cX8_hittersAt 13 = .ok (.iconst 0, 1) := by decide +kernel
theorem dX8_hittersAt_14 : decode cX8_hittersAt 14 = .ok (.istore_n 3, 1) := by decide +kernel
theorem dX8_hittersAt_15 : decode cX8_hittersAt 15 = .ok (.iconst 0, 1) := by decide +kernel
theorem dX8_hittersAt_16 : decode cX8_hittersAt 16 = .ok (.istore 4, 2) := by decide +kernel
theorem dX8_hittersAt_18 : decode cX8_hittersAt 18 = .ok (.iload 4, 2) := by decide +kernel
theorem dX8_hittersAt_20 : decode cX8_hittersAt 20 = .ok (.aload_n 0, 1) := by decide +kernel
theorem dX8_hittersAt_21 : decode cX8_hittersAt 21 = .ok (.getfield 83, 3) := by decide +kernel
theorem dX8_hittersAt_24 : decode cX8_hittersAt 24 = .ok (.if_icmp .ge 29, 3) := by decide +kernel
theorem dX8_hittersAt_27 : decode cX8_hittersAt 27 = .ok (.aload_n 0, 1) := by decide +kernel
theorem dX8_hittersAt_28 : decode cX8_hittersAt 28 = .ok (.iload 4, 2) := by decide +kernel
theorem dX8_hittersAt_30 : decode cX8_hittersAt 30 = .ok (.invokevirtual 120, 3) := by decide +kernel
theorem dX8_hittersAt_33 : decode cX8_hittersAt 33 = .ok (.iload_n 2, 1) := by decide +kernel
theorem dX8_hittersAt_34 : decode cX8_hittersAt 34 = .ok (.invokestatic 152, 3) := by decide +kernel
theorem dX8_hittersAt_37 : decode cX8_hittersAt 37 = .ok (.ifCond .eq 10, 3) := by decide +kernel
theorem dX8_hittersAt_40 : decode cX8_hittersAt 40 = .ok (.iload_n 3, 1) := by decide +kernel
theorem dX8_hittersAt_41 : decode cX8_hittersAt 41 = .ok (.iconst 1, 1) := by decide +kernel
theorem dX8_hittersAt_42 : decode cX8_hittersAt 42 = .ok (.iload 4, 2) := by decide +kernel
theorem dX8_hittersAt_44 : decode cX8_hittersAt 44 = .ok (.ishl, 1) := by decide +kernel
theorem dX8_hittersAt_45 : decode cX8_hittersAt 45 = .ok (.ior, 1) := by decide +kernel
theorem dX8_hittersAt_46 : decode cX8_hittersAt 46 = .ok (.istore_n 3, 1) := by decide +kernel
theorem dX8_hittersAt_47 : decode cX8_hittersAt 47 = .ok (.iinc 4 1, 3) := by decide +kernel
theorem dX8_hittersAt_50 : decode cX8_hittersAt 50 = .ok (.goto (-32), 3) := by decide +kernel
theorem dX8_hittersAt_53 : decode cX8_hittersAt 53 = .ok (.iload_n 3, 1) := by decide +kernel
theorem dX8_hittersAt_54 : decode cX8_hittersAt 54 = .ok (.ireturn, 1) := by decide +kernel
theorem dX8_addWins_0 : decode cX8_addWins 0 = .ok (.iconst 0, 1) := by decide +kernel
theorem dX8_addWins_1 : decode cX8_addWins 1 = .ok (.istore_n 2, 1) := by decide +kernel
theorem dX8_addWins_2 : decode cX8_addWins 2 = .ok (.iload_n 2, 1) := by decide +kernel
theorem dX8_addWins_3 : decode cX8_addWins 3 = .ok (.aload_n 1, 1) := by decide +kernel
theorem dX8_addWins_4 : decode cX8_addWins 4 = .ok (.arraylength, 1) := by decide +kernel
theorem dX8_addWins_5 : decode cX8_addWins 5 = .ok (.if_icmp .ge 28, 3) := by decide +kernel
theorem dX8_addWins_8 : decode cX8_addWins 8 = .ok (.aload_n 1, 1) := by decide +kernel
theorem dX8_addWins_9 : decode cX8_addWins 9 = .ok (.iload_n 2, 1) := by decide +kernel
theorem dX8_addWins_10 : decode cX8_addWins 10 = .ok (.dup2, 1) := by decide +kernel
theorem dX8_addWins_11 : decode cX8_addWins 11 = .ok (.iaload, 1) := by decide +kernel
theorem dX8_addWins_12 : decode cX8_addWins 12 = .ok (.iload_n 0, 1) := by decide +kernel
theorem dX8_addWins_13 : decode cX8_addWins 13 = .ok (.iload_n 2, 1) := by decide +kernel
theorem dX8_addWins_14 : decode cX8_addWins 14 = .ok (.invokestatic 152, 3) := by decide +kernel
theorem dX8_addWins_17 : decode cX8_addWins 17 = .ok (.ifCond .eq 7, 3) := by decide +kernel
theorem dX8_addWins_20 : decode cX8_addWins 20 = .ok (.iconst 1, 1) := by decide +kernel
theorem dX8_addWins_21 : decode cX8_addWins 21 = .ok (.goto 4, 3) := by decide +kernel
theorem dX8_addWins_24 : decode cX8_addWins 24 = .ok (.iconst 0, 1) := by decide +kernel
theorem dX8_addWins_25 : decode cX8_addWins 25 = .ok (.iadd, 1) := by decide +kernel
theorem dX8_addWins_26 : decode cX8_addWins 26 = .ok (.iastore, 1) := by decide +kernel
theorem dX8_addWins_27 : decode cX8_addWins 27 = .ok (.iinc 2 1, 3) := by decide +kernel
theorem dX8_addWins_30 : decode cX8_addWins 30 = .ok (.goto (-28), 3) := by decide +kernel
theorem dX8_addWins_33 : decode cX8_addWins 33 = .ok (.return_, 1) := by decide +kernel
theorem dX8_mostWins_0 : decode cX8_mostWins 0 = .ok (.iconst 0, 1) := by decide +kernel
theorem dX8_mostWins_1 : decode cX8_mostWins 1 = .ok (.istore_n 1, 1) := by decide +kernel
theorem dX8_mostWins_2 : decode cX8_mostWins 2 = .ok (.iconst 1, 1) := by decide +kernel
theorem dX8_mostWins_3 : decode cX8_mostWins 3 = .ok (.istore_n 2, 1) := by decide +kernel
theorem dX8_mostWins_4 : decode cX8_mostWins 4 = .ok (.iload_n 2, 1) := by decide +kernel
theorem dX8_mostWins_5 : decode cX8_mostWins 5 = .ok (.aload_n 0, 1) := by decide +kernel
theorem dX8_mostWins_6 : decode cX8_mostWins 6 = .ok (.getfield 83, 3) := by decide +kernel
theorem dX8_mostWins_9 : decode cX8_mostWins 9 = .ok (.if_icmp .ge 35, 3) := by decide +kernel
theorem dX8_mostWins_12 : decode cX8_mostWins 12 = .ok (.iload_n 2, 1) := by decide +kernel
theorem dX8_mostWins_13 : decode cX8_mostWins 13 = .ok (.aload_n 0, 1) := by decide +kernel
theorem dX8_mostWins_14 : decode cX8_mostWins 14 = .ok (.getfield 52, 3) := by decide +kernel
theorem dX8_mostWins_17 : decode cX8_mostWins 17 = .ok (.arraylength, 1) := by decide +kernel
theorem dX8_mostWins_18 : decode cX8_mostWins 18 = .ok (.if_icmp .ge 26, 3) := by decide +kernel
theorem dX8_mostWins_21 : decode cX8_mostWins 21 = .ok (.aload_n 0, 1) := by decide +kernel
theorem dX8_mostWins_22 : decode cX8_mostWins 22 = .ok (.getfield 52, 3) := by decide +kernel
theorem dX8_mostWins_25 : decode cX8_mostWins 25 = .ok (.iload_n 2, 1) := by decide +kernel
theorem dX8_mostWins_26 : decode cX8_mostWins 26 = .ok (.iaload, 1) := by decide +kernel
theorem dX8_mostWins_27 : decode cX8_mostWins 27 = .ok (.aload_n 0, 1) := by decide +kernel
theorem dX8_mostWins_28 : decode cX8_mostWins 28 = .ok (.getfield 52, 3) := by decide +kernel
theorem dX8_mostWins_31 : decode cX8_mostWins 31 = .ok (.iload_n 1, 1) := by decide +kernel
theorem dX8_mostWins_32 : decode cX8_mostWins 32 = .ok (.iaload, 1) := by decide +kernel
theorem dX8_mostWins_33 : decode cX8_mostWins 33 = .ok (.if_icmp .le 5, 3) := by decide +kernel
theorem dX8_mostWins_36 : decode cX8_mostWins 36 = .ok (.iload_n 2, 1) := by decide +kernel
theorem dX8_mostWins_37 : decode cX8_mostWins 37 = .ok (.istore_n 1, 1) := by decide +kernel
theorem dX8_mostWins_38 : decode cX8_mostWins 38 = .ok (.iinc 2 1, 3) := by decide +kernel
theorem dX8_mostWins_41 : decode cX8_mostWins 41 = .ok (.goto (-37), 3) := by decide +kernel
theorem dX8_mostWins_44 : decode cX8_mostWins 44 = .ok (.iload_n 1, 1) := by decide +kernel
theorem dX8_mostWins_45 : decode cX8_mostWins 45 = .ok (.ireturn, 1) := by decide +kernel
theorem dX8_nextSeed_0 : decode cX8_nextSeed 0 = .ok (.ldc2_w 263, 3) := by decide +kernel
theorem dX8_nextSeed_3 : decode cX8_nextSeed 3 = .ok (.iload_n 0, 1) := by decide +kernel
theorem dX8_nextSeed_4 : decode cX8_nextSeed 4 = .ok (.i2l, 1) := by decide +kernel
theorem dX8_nextSeed_5 : decode cX8_nextSeed 5 = .ok (.lmul, 1) := by decide +kernel
theorem dX8_nextSeed_6 : decode cX8_nextSeed 6 = .ok (.ldc2_w 265, 3) := by decide +kernel
theorem dX8_nextSeed_9 : decode cX8_nextSeed 9 = .ok (.ladd, 1) := by decide +kernel
theorem dX8_nextSeed_10 : decode cX8_nextSeed 10 = .ok (.ldc2_w 267, 3) := by decide +kernel
theorem dX8_nextSeed_13 : decode cX8_nextSeed 13 = .ok (.land, 1) := by decide +kernel
theorem dX8_nextSeed_14 : decode cX8_nextSeed 14 = .ok (.l2i, 1) := by decide +kernel
theorem dX8_nextSeed_15 : decode cX8_nextSeed 15 = .ok (.ireturn, 1) := by decide +kernel
theorem dX8_bestAgainst_0 : decode cX8_bestAgainst 0 = .ok (.iconst 0, 1) := by decide +kernel
theorem dX8_bestAgainst_1 : decode cX8_bestAgainst 1 = .ok (.istore_n 2, 1) := by decide +kernel
theorem dX8_bestAgainst_2 : decode cX8_bestAgainst 2 = .ok (.iconst (-1), 1) := by decide +kernel
theorem dX8_bestAgainst_3 : decode cX8_bestAgainst 3 = .ok (.istore_n 3, 1) := by decide +kernel
theorem dX8_bestAgainst_4 : decode cX8_bestAgainst 4 = .ok (.iconst 0, 1) := by decide +kernel
theorem dX8_bestAgainst_5 : decode cX8_bestAgainst 5 = .ok (.istore 4, 2) := by decide +kernel
theorem dX8_bestAgainst_7 : decode cX8_bestAgainst 7 = .ok (.iload 4, 2) := by decide +kernel
theorem dX8_bestAgainst_9 : decode cX8_bestAgainst 9 = .ok (.iconst 1, 1) := by decide +kernel
theorem dX8_bestAgainst_10 : decode cX8_bestAgainst 10 = .ok (.aload_n 0, 1) := by decide +kernel
theorem dX8_bestAgainst_11 : decode cX8_bestAgainst 11 = .ok (.getfield 90, 3) := by decide +kernel
theorem dX8_bestAgainst_14 : decode cX8_bestAgainst 14 = .ok (.ishl, 1) := by decide +kernel
theorem dX8_bestAgainst_15 : decode cX8_bestAgainst 15 = .ok (.if_icmp .ge 48, 3) := by decide +kernel
theorem dX8_bestAgainst_18 : decode cX8_bestAgainst 18 = .ok (.iload_n 1, 1) := by decide +kernel
theorem dX8_bestAgainst_19 : decode cX8_bestAgainst 19 = .ok (.iload 4, 2) := by decide +kernel
theorem dX8_bestAgainst_21 : decode cX8_bestAgainst 21 = .ok (.invokestatic 152, 3) := by decide +kernel
theorem dX8_bestAgainst_24 : decode cX8_bestAgainst 24 = .ok (.ifCond .ne 33, 3) := by decide +kernel
theorem dX8_bestAgainst_27 : decode cX8_bestAgainst 27 = .ok (.aload_n 0, 1) := by decide +kernel
theorem dX8_bestAgainst_28 : decode cX8_bestAgainst 28 = .ok (.getfield 29, 3) := by decide +kernel
theorem dX8_bestAgainst_31 : decode cX8_bestAgainst 31 = .ok (.iconst 1, 1) := by decide +kernel
theorem dX8_bestAgainst_32 : decode cX8_bestAgainst 32 = .ok (.iload 4, 2) := by decide +kernel
theorem dX8_bestAgainst_34 : decode cX8_bestAgainst 34 = .ok (.ishl, 1) := by decide +kernel
theorem dX8_bestAgainst_35 : decode cX8_bestAgainst 35 = .ok (.iload_n 1, 1) := by decide +kernel
theorem dX8_bestAgainst_36 : decode cX8_bestAgainst 36 = .ok (.aload_n 0, 1) := by decide +kernel
theorem dX8_bestAgainst_37 : decode cX8_bestAgainst 37 = .ok (.getfield 90, 3) := by decide +kernel
theorem dX8_bestAgainst_40 : decode cX8_bestAgainst 40 = .ok (.invokevirtual 178, 3) := by decide +kernel
theorem dX8_bestAgainst_43 : decode cX8_bestAgainst 43 = .ok (.istore 5, 2) := by decide +kernel
theorem dX8_bestAgainst_45 : decode cX8_bestAgainst 45 = .ok (.iload 5, 2) := by decide +kernel
theorem dX8_bestAgainst_47 : decode cX8_bestAgainst 47 = .ok (.iload_n 3, 1) := by decide +kernel
theorem dX8_bestAgainst_48 : decode cX8_bestAgainst 48 = .ok (.if_icmp .le 9, 3) := by decide +kernel
theorem dX8_bestAgainst_51 : decode cX8_bestAgainst 51 = .ok (.iload 5, 2) := by decide +kernel
theorem dX8_bestAgainst_53 : decode cX8_bestAgainst 53 = .ok (.istore_n 3, 1) := by decide +kernel
theorem dX8_bestAgainst_54 : decode cX8_bestAgainst 54 = .ok (.iload 4, 2) := by decide +kernel
theorem dX8_bestAgainst_56 : decode cX8_bestAgainst 56 = .ok (.istore_n 2, 1) := by decide +kernel
theorem dX8_bestAgainst_57 : decode cX8_bestAgainst 57 = .ok (.iinc 4 1, 3) := by decide +kernel
theorem dX8_bestAgainst_60 : decode cX8_bestAgainst 60 = .ok (.goto (-53), 3) := by decide +kernel
theorem dX8_bestAgainst_63 : decode cX8_bestAgainst 63 = .ok (.iload_n 2, 1) := by decide +kernel
theorem dX8_bestAgainst_64 : decode cX8_bestAgainst 64 = .ok (.ireturn, 1) := by decide +kernel
theorem dX8_dangerOf_0 : decode cX8_dangerOf 0 = .ok (.aload_n 0, 1) := by decide +kernel
theorem dX8_dangerOf_1 : decode cX8_dangerOf 1 = .ok (.getfield 29, 3) := by decide +kernel
theorem dX8_dangerOf_4 : decode cX8_dangerOf 4 = .ok (.iconst 1, 1) := by decide +kernel
theorem dX8_dangerOf_5 : decode cX8_dangerOf 5 = .ok (.aload_n 0, 1) := by decide +kernel
theorem dX8_dangerOf_6 : decode cX8_dangerOf 6 = .ok (.iconst 1, 1) := by decide +kernel
theorem dX8_dangerOf_7 : decode cX8_dangerOf 7 = .ok (.iload_n 1, 1) := by decide +kernel
theorem dX8_dangerOf_8 : decode cX8_dangerOf 8 = .ok (.ishl, 1) := by decide +kernel
theorem dX8_dangerOf_9 : decode cX8_dangerOf 9 = .ok (.invokevirtual 182, 3) := by decide +kernel
theorem dX8_dangerOf_12 : decode cX8_dangerOf 12 = .ok (.ishl, 1) := by decide +kernel
theorem dX8_dangerOf_13 : decode cX8_dangerOf 13 = .ok (.iconst 1, 1) := by decide +kernel
theorem dX8_dangerOf_14 : decode cX8_dangerOf 14 = .ok (.iload_n 1, 1) := by decide +kernel
theorem dX8_dangerOf_15 : decode cX8_dangerOf 15 = .ok (.ishl, 1) := by decide +kernel
theorem dX8_dangerOf_16 : decode cX8_dangerOf 16 = .ok (.aload_n 0, 1) := by decide +kernel
theorem dX8_dangerOf_17 : decode cX8_dangerOf 17 = .ok (.getfield 90, 3) := by decide +kernel
theorem dX8_dangerOf_20 : decode cX8_dangerOf 20 = .ok (.invokevirtual 178, 3) := by decide +kernel
theorem dX8_dangerOf_23 : decode cX8_dangerOf 23 = .ok (.ireturn, 1) := by decide +kernel
theorem dX8_bestToOpen_0 : decode cX8_bestToOpen 0 = .ok (.iconst 0, 1) := by decide +kernel
theorem dX8_bestToOpen_1 : decode cX8_bestToOpen 1 = .ok (.istore_n 1, 1) := by decide +kernel
theorem dX8_bestToOpen_2 : decode cX8_bestToOpen 2 = .ok (.ldc_w 269, 3) := by decide +kernel
theorem dX8_bestToOpen_5 : decode cX8_bestToOpen 5 = .ok (.istore_n 2, 1) := by decide +kernel
theorem dX8_bestToOpen_6 : decode cX8_bestToOpen 6 = .ok (.iconst 0, 1) := by decide +kernel
theorem dX8_bestToOpen_7 : decode cX8_bestToOpen 7 = .ok (.istore_n 3, 1) := by decide +kernel
theorem dX8_bestToOpen_8 : decode cX8_bestToOpen 8 = .ok (.iload_n 3, 1) := by decide +kernel
theorem dX8_bestToOpen_9 : decode cX8_bestToOpen 9 = .ok (.iconst 1, 1) := by decide +kernel
theorem dX8_bestToOpen_10 : decode cX8_bestToOpen 10 = .ok (.aload_n 0, 1) := by decide +kernel
theorem dX8_bestToOpen_11 : decode cX8_bestToOpen 11 = .ok (.getfield 90, 3) := by decide +kernel
theorem dX8_bestToOpen_14 : decode cX8_bestToOpen 14 = .ok (.ishl, 1) := by decide +kernel
theorem dX8_bestToOpen_15 : decode cX8_bestToOpen 15 = .ok (.if_icmp .ge 27, 3) := by decide +kernel
theorem dX8_bestToOpen_18 : decode cX8_bestToOpen 18 = .ok (.aload_n 0, 1) := by decide +kernel
theorem dX8_bestToOpen_19 : decode cX8_bestToOpen 19 = .ok (.iload_n 3, 1) := by decide +kernel
theorem dX8_bestToOpen_20 : decode cX8_bestToOpen 20 = .ok (.invokevirtual 188, 3) := by decide +kernel
theorem dX8_bestToOpen_23 : decode cX8_bestToOpen 23 = .ok (.istore 4, 2) := by decide +kernel
theorem dX8_bestToOpen_25 : decode cX8_bestToOpen 25 = .ok (.iload 4, 2) := by decide +kernel
theorem dX8_bestToOpen_27 : decode cX8_bestToOpen 27 = .ok (.iload_n 2, 1) := by decide +kernel
theorem dX8_bestToOpen_28 : decode cX8_bestToOpen 28 = .ok (.if_icmp .ge 8, 3) := by decide +kernel
theorem dX8_bestToOpen_31 : decode cX8_bestToOpen 31 = .ok (.iload 4, 2) := by decide +kernel
theorem dX8_bestToOpen_33 : decode cX8_bestToOpen 33 = .ok (.istore_n 2, 1) := by decide +kernel
theorem dX8_bestToOpen_34 : decode cX8_bestToOpen 34 = .ok (.iload_n 3, 1) := by decide +kernel
theorem dX8_bestToOpen_35 : decode cX8_bestToOpen 35 = .ok (.istore_n 1, 1) := by decide +kernel
theorem dX8_bestToOpen_36 : decode cX8_bestToOpen 36 = .ok (.iinc 3 1, 3) := by decide +kernel
theorem dX8_bestToOpen_39 : decode cX8_bestToOpen 39 = .ok (.goto (-31), 3) := by decide +kernel
theorem dX8_bestToOpen_42 : decode cX8_bestToOpen 42 = .ok (.iload_n 1, 1) := by decide +kernel
theorem dX8_bestToOpen_43 : decode cX8_bestToOpen 43 = .ok (.ireturn, 1) := by decide +kernel
theorem dX8_beatBit_0 : decode cX8_beatBit 0 = .ok (.iconst 1, 1) := by decide +kernel
theorem dX8_beatBit_1 : decode cX8_beatBit 1 = .ok (.iload_n 0, 1) := by decide +kernel
end
section
theorem dX8_beatBit_2 : decode cX8_beatBit 2 = .ok (.iconst 4, 1) := by decide +kernel
theorem dX8_beatBit_3 : decode cX8_beatBit 3 = .ok (.imul, 1) := by decide +kernel
theorem dX8_beatBit_4 : decode cX8_beatBit 4 = .ok (.iload_n 1, 1) := by decide +kernel
theorem dX8_beatBit_5 : decode cX8_beatBit 5 = .ok (.iadd, 1) := by decide +kernel
theorem dX8_beatBit_6 : decode cX8_beatBit 6 = .ok (.ishl, 1) := by decide +kernel
theorem dX8_beatBit_7 : decode cX8_beatBit 7 = .ok (.ireturn, 1) := by decide +kernel
theorem dX8_whoBeatsWhom_0 : decode cX8_whoBeatsWhom 0 = .ok (.iconst 0, 1) := by decide +kernel
theorem dX8_whoBeatsWhom_1 : decode cX8_whoBeatsWhom 1 = .ok (.istore_n 1, 1) := by decide +kernel
theorem dX8_whoBeatsWhom_2 : decode cX8_whoBeatsWhom 2 = .ok (.iconst 0, 1) := by decide +kernel
theorem dX8_whoBeatsWhom_3 : decode cX8_whoBeatsWhom 3 = .ok (.istore_n 2, 1) := by decide +kernel
theorem dX8_whoBeatsWhom_4 : decode cX8_whoBeatsWhom 4 = .ok (.iload_n 2, 1) := by decide +kernel
theorem dX8_whoBeatsWhom_5 : decode cX8_whoBeatsWhom 5 = .ok (.aload_n 0, 1) := by decide +kernel
theorem dX8_whoBeatsWhom_6 : decode cX8_whoBeatsWhom 6 = .ok (.getfield 83, 3) := by decide +kernel
theorem dX8_whoBeatsWhom_9 : decode cX8_whoBeatsWhom 9 = .ok (.if_icmp .ge 101, 3) := by decide +kernel
theorem dX8_whoBeatsWhom_12 : decode cX8_whoBeatsWhom 12 = .ok (.iconst 0, 1) := by decide +kernel
theorem dX8_whoBeatsWhom_13 : decode cX8_whoBeatsWhom 13 = .ok (.istore_n 3, 1) := by decide +kernel
theorem dX8_whoBeatsWhom_14 : decode cX8_whoBeatsWhom 14 = .ok (.iload_n 3, 1) := by decide +kernel
theorem dX8_whoBeatsWhom_15 : decode cX8_whoBeatsWhom 15 = .ok (.iload_n 2, 1) := by decide +kernel
theorem dX8_whoBeatsWhom_16 : decode cX8_whoBeatsWhom 16 = .ok (.if_icmp .ge 88, 3) := by decide +kernel
theorem dX8_whoBeatsWhom_19 : decode cX8_whoBeatsWhom 19 = .ok (.aload_n 0, 1) := by decide +kernel
theorem dX8_whoBeatsWhom_20 : decode cX8_whoBeatsWhom 20 = .ok (.getfield 29, 3) := by decide +kernel
theorem dX8_whoBeatsWhom_23 : decode cX8_whoBeatsWhom 23 = .ok (.aload_n 0, 1) := by decide +kernel
theorem dX8_whoBeatsWhom_24 : decode cX8_whoBeatsWhom 24 = .ok (.iload_n 2, 1) := by decide +kernel
theorem dX8_whoBeatsWhom_25 : decode cX8_whoBeatsWhom 25 = .ok (.invokevirtual 120, 3) := by decide +kernel
theorem dX8_whoBeatsWhom_28 : decode cX8_whoBeatsWhom 28 = .ok (.aload_n 0, 1) := by decide +kernel
theorem dX8_whoBeatsWhom_29 : decode cX8_whoBeatsWhom 29 = .ok (.iload_n 3, 1) := by decide +kernel
theorem dX8_whoBeatsWhom_30 : decode cX8_whoBeatsWhom 30 = .ok (.invokevirtual 120, 3) := by decide +kernel
theorem dX8_whoBeatsWhom_33 : decode cX8_whoBeatsWhom 33 = .ok (.aload_n 0, 1) := by decide +kernel
theorem dX8_whoBeatsWhom_34 : decode cX8_whoBeatsWhom 34 = .ok (.getfield 90, 3) := by decide +kernel
theorem dX8_whoBeatsWhom_37 : decode cX8_whoBeatsWhom 37 = .ok (.invokevirtual 178, 3) := by decide +kernel
theorem dX8_whoBeatsWhom_40 : decode cX8_whoBeatsWhom 40 = .ok (.istore 4, 2) := by decide +kernel
theorem dX8_whoBeatsWhom_42 : decode cX8_whoBeatsWhom 42 = .ok (.aload_n 0, 1) := by decide +kernel
theorem dX8_whoBeatsWhom_43 : decode cX8_whoBeatsWhom 43 = .ok (.getfield 29, 3) := by decide +kernel
theorem dX8_whoBeatsWhom_46 : decode cX8_whoBeatsWhom 46 = .ok (.aload_n 0, 1) := by decide +kernel
theorem dX8_whoBeatsWhom_47 : decode cX8_whoBeatsWhom 47 = .ok (.iload_n 3, 1) := by decide +kernel
theorem dX8_whoBeatsWhom_48 : decode cX8_whoBeatsWhom 48 = .ok (.invokevirtual 120, 3) := by decide +kernel
theorem dX8_whoBeatsWhom_51 : decode cX8_whoBeatsWhom 51 = .ok (.aload_n 0, 1) := by decide +kernel
theorem dX8_whoBeatsWhom_52 : decode cX8_whoBeatsWhom 52 = .ok (.iload_n 2, 1) := by decide +kernel
theorem dX8_whoBeatsWhom_53 : decode cX8_whoBeatsWhom 53 = .ok (.invokevirtual 120, 3) := by decide +kernel
theorem dX8_whoBeatsWhom_56 : decode cX8_whoBeatsWhom 56 = .ok (.aload_n 0, 1) := by decide +kernel
theorem dX8_whoBeatsWhom_57 : decode cX8_whoBeatsWhom 57 = .ok (.getfield 90, 3) := by decide +kernel
theorem dX8_whoBeatsWhom_60 : decode cX8_whoBeatsWhom 60 = .ok (.invokevirtual 178, 3) := by decide +kernel
theorem dX8_whoBeatsWhom_63 : decode cX8_whoBeatsWhom 63 = .ok (.istore 5, 2) := by decide +kernel
theorem dX8_whoBeatsWhom_65 : decode cX8_whoBeatsWhom 65 = .ok (.iload 4, 2) := by decide +kernel
theorem dX8_whoBeatsWhom_67 : decode cX8_whoBeatsWhom 67 = .ok (.iload 5, 2) := by decide +kernel
theorem dX8_whoBeatsWhom_69 : decode cX8_whoBeatsWhom 69 = .ok (.if_icmp .le 14, 3) := by decide +kernel
theorem dX8_whoBeatsWhom_72 : decode cX8_whoBeatsWhom 72 = .ok (.iload_n 1, 1) := by decide +kernel
theorem dX8_whoBeatsWhom_73 : decode cX8_whoBeatsWhom 73 = .ok (.iload_n 2, 1) := by decide +kernel
theorem dX8_whoBeatsWhom_74 : decode cX8_whoBeatsWhom 74 = .ok (.iload_n 3, 1) := by decide +kernel
theorem dX8_whoBeatsWhom_75 : decode cX8_whoBeatsWhom 75 = .ok (.invokestatic 270, 3) := by decide +kernel
theorem dX8_whoBeatsWhom_78 : decode cX8_whoBeatsWhom 78 = .ok (.ior, 1) := by decide +kernel
theorem dX8_whoBeatsWhom_79 : decode cX8_whoBeatsWhom 79 = .ok (.istore_n 1, 1) := by decide +kernel
theorem dX8_whoBeatsWhom_80 : decode cX8_whoBeatsWhom 80 = .ok (.goto 18, 3) := by decide +kernel
theorem dX8_whoBeatsWhom_83 : decode cX8_whoBeatsWhom 83 = .ok (.iload 5, 2) := by decide +kernel
theorem dX8_whoBeatsWhom_85 : decode cX8_whoBeatsWhom 85 = .ok (.iload 4, 2) := by decide +kernel
theorem dX8_whoBeatsWhom_87 : decode cX8_whoBeatsWhom 87 = .ok (.if_icmp .le 11, 3) := by decide +kernel
theorem dX8_whoBeatsWhom_90 : decode cX8_whoBeatsWhom 90 = .ok (.iload_n 1, 1) := by decide +kernel
theorem dX8_whoBeatsWhom_91 : decode cX8_whoBeatsWhom 91 = .ok (.iload_n 3, 1) := by decide +kernel
theorem dX8_whoBeatsWhom_92 : decode cX8_whoBeatsWhom 92 = .ok (.iload_n 2, 1) := by decide +kernel
theorem dX8_whoBeatsWhom_93 : decode cX8_whoBeatsWhom 93 = .ok (.invokestatic 270, 3) := by decide +kernel
theorem dX8_whoBeatsWhom_96 : decode cX8_whoBeatsWhom 96 = .ok (.ior, 1) := by decide +kernel
theorem dX8_whoBeatsWhom_97 : decode cX8_whoBeatsWhom 97 = .ok (.istore_n 1, 1) := by decide +kernel
theorem dX8_whoBeatsWhom_98 : decode cX8_whoBeatsWhom 98 = .ok (.iinc 3 1, 3) := by decide +kernel
theorem dX8_whoBeatsWhom_101 : decode cX8_whoBeatsWhom 101 = .ok (.goto (-87), 3) := by decide +kernel
theorem dX8_whoBeatsWhom_104 : decode cX8_whoBeatsWhom 104 = .ok (.iinc 2 1, 3) := by decide +kernel
theorem dX8_whoBeatsWhom_107 : decode cX8_whoBeatsWhom 107 = .ok (.goto (-103), 3) := by decide +kernel
theorem dX8_whoBeatsWhom_110 : decode cX8_whoBeatsWhom 110 = .ok (.iload_n 1, 1) := by decide +kernel
theorem dX8_whoBeatsWhom_111 : decode cX8_whoBeatsWhom 111 = .ok (.ireturn, 1) := by decide +kernel
theorem dX8_isRing_0 : decode cX8_isRing 0 = .ok (.iconst 0, 1) := by decide +kernel
theorem dX8_isRing_1 : decode cX8_isRing 1 = .ok (.istore_n 2, 1) := by decide +kernel
theorem dX8_isRing_2 : decode cX8_isRing 2 = .ok (.iload_n 2, 1) := by decide +kernel
theorem dX8_isRing_3 : decode cX8_isRing 3 = .ok (.iconst 4, 1) := by decide +kernel
theorem dX8_isRing_4 : decode cX8_isRing 4 = .ok (.if_icmp .ge 32, 3) := by decide +kernel
theorem dX8_isRing_7 : decode cX8_isRing 7 = .ok (.iload_n 0, 1) := by decide +kernel
theorem dX8_isRing_8 : decode cX8_isRing 8 = .ok (.iload_n 2, 1) := by decide +kernel
theorem dX8_isRing_9 : decode cX8_isRing 9 = .ok (.invokestatic 152, 3) := by decide +kernel
theorem dX8_isRing_12 : decode cX8_isRing 12 = .ok (.ifCond .eq 18, 3) := by decide +kernel
theorem dX8_isRing_15 : decode cX8_isRing 15 = .ok (.iload_n 2, 1) := by decide +kernel
theorem dX8_isRing_16 : decode cX8_isRing 16 = .ok (.iload_n 2, 1) := by decide +kernel
theorem dX8_isRing_17 : decode cX8_isRing 17 = .ok (.iload_n 0, 1) := by decide +kernel
theorem dX8_isRing_18 : decode cX8_isRing 18 = .ok (.iconst 1, 1) := by decide +kernel
theorem dX8_isRing_19 : decode cX8_isRing 19 = .ok (.iload_n 2, 1) := by decide +kernel
theorem dX8_isRing_20 : decode cX8_isRing 20 = .ok (.ishl, 1) := by decide +kernel
theorem dX8_isRing_21 : decode cX8_isRing 21 = .ok (.iconst (-1), 1) := by decide +kernel
theorem dX8_isRing_22 : decode cX8_isRing 22 = .ok (.ixor, 1) := by decide +kernel
theorem dX8_isRing_23 : decode cX8_isRing 23 = .ok (.iand, 1) := by decide +kernel
theorem dX8_isRing_24 : decode cX8_isRing 24 = .ok (.iload_n 1, 1) := by decide +kernel
theorem dX8_isRing_25 : decode cX8_isRing 25 = .ok (.iconst 0, 1) := by decide +kernel
theorem dX8_isRing_26 : decode cX8_isRing 26 = .ok (.invokestatic 273, 3) := by decide +kernel
theorem dX8_isRing_29 : decode cX8_isRing 29 = .ok (.ireturn, 1) := by decide +kernel
theorem dX8_isRing_30 : decode cX8_isRing 30 = .ok (.iinc 2 1, 3) := by decide +kernel
theorem dX8_isRing_33 : decode cX8_isRing 33 = .ok (.goto (-31), 3) := by decide +kernel
theorem dX8_isRing_36 : decode cX8_isRing 36 = .ok (.iconst 0, 1) := by decide +kernel
theorem dX8_isRing_37 : decode cX8_isRing 37 = .ok (.ireturn, 1) := by decide +kernel
theorem dX8_closes_0 : decode cX8_closes 0 = .ok (.iload_n 2, 1) := by decide +kernel
theorem dX8_closes_1 : decode cX8_closes 1 = .ok (.ifCond .ne 19, 3) := by decide +kernel
theorem dX8_closes_4 : decode cX8_closes 4 = .ok (.iload_n 3, 1) := by decide +kernel
theorem dX8_closes_5 : decode cX8_closes 5 = .ok (.iload_n 1, 1) := by decide +kernel
theorem dX8_closes_6 : decode cX8_closes 6 = .ok (.iload_n 0, 1) := by decide +kernel
theorem dX8_closes_7 : decode cX8_closes 7 = .ok (.invokestatic 270, 3) := by decide +kernel
theorem dX8_closes_10 : decode cX8_closes 10 = .ok (.iand, 1) := by decide +kernel
theorem dX8_closes_11 : decode cX8_closes 11 = .ok (.ifCond .eq 7, 3) := by decide +kernel
theorem dX8_closes_14 : decode cX8_closes 14 = .ok (.iconst 1, 1) := by decide +kernel
theorem dX8_closes_15 : decode cX8_closes 15 = .ok (.goto 4, 3) := by decide +kernel
theorem dX8_closes_18 : decode cX8_closes 18 = .ok (.iconst 0, 1) := by decide +kernel
theorem dX8_closes_19 : decode cX8_closes 19 = .ok (.ireturn, 1) := by decide +kernel
theorem dX8_closes_20 : decode cX8_closes 20 = .ok (.iload 4, 2) := by decide +kernel
theorem dX8_closes_22 : decode cX8_closes 22 = .ok (.iconst 4, 1) := by decide +kernel
theorem dX8_closes_23 : decode cX8_closes 23 = .ok (.if_icmp .lt 5, 3) := by decide +kernel
theorem dX8_closes_26 : decode cX8_closes 26 = .ok (.iconst 0, 1) := by decide +kernel
theorem dX8_closes_27 : decode cX8_closes 27 = .ok (.ireturn, 1) := by decide +kernel
theorem dX8_closes_28 : decode cX8_closes 28 = .ok (.iconst 0, 1) := by decide +kernel
theorem dX8_closes_29 : decode cX8_closes 29 = .ok (.istore 5, 2) := by decide +kernel
theorem dX8_closes_31 : decode cX8_closes 31 = .ok (.iload 5, 2) := by decide +kernel
theorem dX8_closes_33 : decode cX8_closes 33 = .ok (.iconst 4, 1) := by decide +kernel
theorem dX8_closes_34 : decode cX8_closes 34 = .ok (.if_icmp .ge 65, 3) := by decide +kernel
theorem dX8_closes_37 : decode cX8_closes 37 = .ok (.iload_n 2, 1) := by decide +kernel
theorem dX8_closes_38 : decode cX8_closes 38 = .ok (.iload 5, 2) := by decide +kernel
theorem dX8_closes_40 : decode cX8_closes 40 = .ok (.invokestatic 152, 3) := by decide +kernel
theorem dX8_closes_43 : decode cX8_closes 43 = .ok (.ifCond .eq 18, 3) := by decide +kernel
theorem dX8_closes_46 : decode cX8_closes 46 = .ok (.iload_n 3, 1) := by decide +kernel
theorem dX8_closes_47 : decode cX8_closes 47 = .ok (.iload_n 1, 1) := by decide +kernel
theorem dX8_closes_48 : decode cX8_closes 48 = .ok (.iload 5, 2) := by decide +kernel
theorem dX8_closes_50 : decode cX8_closes 50 = .ok (.invokestatic 270, 3) := by decide +kernel
theorem dX8_closes_53 : decode cX8_closes 53 = .ok (.iand, 1) := by decide +kernel
theorem dX8_closes_54 : decode cX8_closes 54 = .ok (.ifCond .eq 7, 3) := by decide +kernel
theorem dX8_closes_57 : decode cX8_closes 57 = .ok (.iconst 1, 1) := by decide +kernel
theorem dX8_closes_58 : decode cX8_closes 58 = .ok (.goto 4, 3) := by decide +kernel
theorem dX8_closes_61 : decode cX8_closes 61 = .ok (.iconst 0, 1) := by decide +kernel
theorem dX8_closes_62 : decode cX8_closes 62 = .ok (.istore 6, 2) := by decide +kernel
theorem dX8_closes_64 : decode cX8_closes 64 = .ok (.iload 6, 2) := by decide +kernel
theorem dX8_closes_66 : decode cX8_closes 66 = .ok (.ifCond .eq 27, 3) := by decide +kernel
theorem dX8_closes_69 : decode cX8_closes 69 = .ok (.iload_n 0, 1) := by decide +kernel
theorem dX8_closes_70 : decode cX8_closes 70 = .ok (.iload 5, 2) := by decide +kernel
theorem dX8_closes_72 : decode cX8_closes 72 = .ok (.iload_n 2, 1) := by decide +kernel
theorem dX8_closes_73 : decode cX8_closes 73 = .ok (.iconst 1, 1) := by decide +kernel
theorem dX8_closes_74 : decode cX8_closes 74 = .ok (.iload 5, 2) := by decide +kernel
theorem dX8_closes_76 : decode cX8_closes 76 = .ok (.ishl, 1) := by decide +kernel
theorem dX8_closes_77 : decode cX8_closes 77 = .ok (.iconst (-1), 1) := by decide +kernel
theorem dX8_closes_78 : decode cX8_closes 78 = .ok (.ixor, 1) := by decide +kernel
theorem dX8_closes_79 : decode cX8_closes 79 = .ok (.iand, 1) := by decide +kernel
theorem dX8_closes_80 : decode cX8_closes 80 = .ok (.iload_n 3, 1) := by decide +kernel
theorem dX8_closes_81 : decode cX8_closes 81 = .ok (.iload 4, 2) := by decide +kernel
theorem dX8_closes_83 : decode cX8_closes 83 = .ok (.iconst 1, 1) := by decide +kernel
theorem dX8_closes_84 : decode cX8_closes 84 = .ok (.iadd, 1) := by decide +kernel
theorem dX8_closes_85 : decode cX8_closes 85 = .ok (.invokestatic 273, 3) := by decide +kernel
theorem dX8_closes_88 : decode cX8_closes 88 = .ok (.ifCond .eq 5, 3) := by decide +kernel
theorem dX8_closes_91 : decode cX8_closes 91 = .ok (.iconst 1, 1) := by decide +kernel
theorem dX8_closes_92 : decode cX8_closes 92 = .ok (.ireturn, 1) := by decide +kernel
theorem dX8_closes_93 : decode cX8_closes 93 = .ok (.iinc 5 1, 3) := by decide +kernel
theorem dX8_closes_96 : decode cX8_closes 96 = .ok (.goto (-65), 3) := by decide +kernel
theorem dX8_closes_99 : decode cX8_closes 99 = .ok (.iconst 0, 1) := by decide +kernel
theorem dX8_closes_100 : decode cX8_closes 100 = .ok (.ireturn, 1) := by decide +kernel
theorem dX8_waysToWin_0 : decode cX8_waysToWin 0 = .ok (.aload_n 0, 1) := by decide +kernel
theorem dX8_waysToWin_1 : decode cX8_waysToWin 1 = .ok (.iload_n 1, 1) := by decide +kernel
theorem dX8_waysToWin_2 : decode cX8_waysToWin 2 = .ok (.invokevirtual 120, 3) := by decide +kernel
theorem dX8_waysToWin_5 : decode cX8_waysToWin 5 = .ok (.istore_n 3, 1) := by decide +kernel
theorem dX8_waysToWin_6 : decode cX8_waysToWin 6 = .ok (.iconst 0, 1) := by decide +kernel
theorem dX8_waysToWin_7 : decode cX8_waysToWin 7 = .ok (.istore 4, 2) := by decide +kernel
theorem dX8_waysToWin_9 : decode cX8_waysToWin 9 = .ok (.iconst 0, 1) := by decide +kernel
theorem dX8_waysToWin_10 : decode cX8_waysToWin 10 = .ok (.istore 5, 2) := by decide +kernel
theorem dX8_waysToWin_12 : decode cX8_waysToWin 12 = .ok (.iload 5, 2) := by decide +kernel
theorem dX8_waysToWin_14 : decode cX8_waysToWin 14 = .ok (.aload_n 0, 1) := by decide +kernel
theorem dX8_waysToWin_15 : decode cX8_waysToWin 15 = .ok (.getfield 83, 3) := by decide +kernel
theorem dX8_waysToWin_18 : decode cX8_waysToWin 18 = .ok (.if_icmp .ge 20, 3) := by decide +kernel
theorem dX8_waysToWin_21 : decode cX8_waysToWin 21 = .ok (.iload 4, 2) := by decide +kernel
theorem dX8_waysToWin_23 : decode cX8_waysToWin 23 = .ok (.aload_n 0, 1) := by decide +kernel
theorem dX8_waysToWin_24 : decode cX8_waysToWin 24 = .ok (.iload 5, 2) := by decide +kernel
theorem dX8_waysToWin_26 : decode cX8_waysToWin 26 = .ok (.invokevirtual 120, 3) := by decide +kernel
theorem dX8_waysToWin_29 : decode cX8_waysToWin 29 = .ok (.ior, 1) := by decide +kernel
theorem dX8_waysToWin_30 : decode cX8_waysToWin 30 = .ok (.istore 4, 2) := by decide +kernel
theorem dX8_waysToWin_32 : decode cX8_waysToWin 32 = .ok (.iinc 5 1, 3) := by decide +kernel
theorem dX8_waysToWin_35 : decode cX8_waysToWin 35 = .ok (.goto (-23), 3) := by decide +kernel
theorem dX8_waysToWin_38 : decode cX8_waysToWin 38 = .ok (.aload_n 0, 1) := by decide +kernel
theorem dX8_waysToWin_39 : decode cX8_waysToWin 39 = .ok (.getfield 56, 3) := by decide +kernel
theorem dX8_waysToWin_42 : decode cX8_waysToWin 42 = .ok (.iconst 0, 1) := by decide +kernel
theorem dX8_waysToWin_43 : decode cX8_waysToWin 43 = .ok (.invokestatic 207, 3) := by decide +kernel
theorem dX8_waysToWin_46 : decode cX8_waysToWin 46 = .ok (.aload_n 0, 1) := by decide +kernel
theorem dX8_waysToWin_47 : decode cX8_waysToWin 47 = .ok (.getfield 19, 3) := by decide +kernel
theorem dX8_waysToWin_50 : decode cX8_waysToWin 50 = .ok (.getfield 162, 3) := by decide +kernel
theorem dX8_waysToWin_53 : decode cX8_waysToWin 53 = .ok (.ifCond .lt 31, 3) := by decide +kernel
theorem dX8_waysToWin_56 : decode cX8_waysToWin 56 = .ok (.aload_n 0, 1) := by decide +kernel
theorem dX8_waysToWin_57 : decode cX8_waysToWin 57 = .ok (.getfield 19, 3) := by decide +kernel
theorem dX8_waysToWin_60 : decode cX8_waysToWin 60 = .ok (.getfield 162, 3) := by decide +kernel
theorem dX8_waysToWin_63 : decode cX8_waysToWin 63 = .ok (.aload_n 0, 1) := by decide +kernel
theorem dX8_waysToWin_64 : decode cX8_waysToWin 64 = .ok (.getfield 56, 3) := by decide +kernel
theorem dX8_waysToWin_67 : decode cX8_waysToWin 67 = .ok (.arraylength, 1) := by decide +kernel
theorem dX8_waysToWin_68 : decode cX8_waysToWin 68 = .ok (.if_icmp .ge 16, 3) := by decide +kernel
theorem dX8_waysToWin_71 : decode cX8_waysToWin 71 = .ok (.aload_n 0, 1) := by decide +kernel
theorem dX8_waysToWin_72 : decode cX8_waysToWin 72 = .ok (.getfield 56, 3) := by decide +kernel
theorem dX8_waysToWin_75 : decode cX8_waysToWin 75 = .ok (.aload_n 0, 1) := by decide +kernel
theorem dX8_waysToWin_76 : decode cX8_waysToWin 76 = .ok (.getfield 19, 3) := by decide +kernel
theorem dX8_waysToWin_79 : decode cX8_waysToWin 79 = .ok (.getfield 162, 3) := by decide +kernel
theorem dX8_waysToWin_82 : decode cX8_waysToWin 82 = .ok (.iconst 1, 1) := by decide +kernel
theorem dX8_waysToWin_83 : decode cX8_waysToWin 83 = .ok (.iastore, 1) := by decide +kernel
theorem dX8_waysToWin_84 : decode cX8_waysToWin 84 = .ok (.iconst 0, 1) := by decide +kernel
theorem dX8_waysToWin_85 : decode cX8_waysToWin 85 = .ok (.istore 5, 2) := by decide +kernel
theorem dX8_waysToWin_87 : decode cX8_waysToWin 87 = .ok (.iconst 0, 1) := by decide +kernel
theorem dX8_waysToWin_88 : decode cX8_waysToWin 88 = .ok (.istore 6, 2) := by decide +kernel
theorem dX8_waysToWin_90 : decode cX8_waysToWin 90 = .ok (.iload 6, 2) := by decide +kernel
theorem dX8_waysToWin_92 : decode cX8_waysToWin 92 = .ok (.iload_n 2, 1) := by decide +kernel
theorem dX8_waysToWin_93 : decode cX8_waysToWin 93 = .ok (.if_icmp .ge 38, 3) := by decide +kernel
theorem dX8_waysToWin_96 : decode cX8_waysToWin 96 = .ok (.iconst 2, 1) := by decide +kernel
theorem dX8_waysToWin_97 : decode cX8_waysToWin 97 = .ok (.iload 5, 2) := by decide +kernel
theorem dX8_waysToWin_99 : decode cX8_waysToWin 99 = .ok (.imul, 1) := by decide +kernel
theorem dX8_waysToWin_100 : decode cX8_waysToWin 100 = .ok (.aload_n 0, 1) := by decide +kernel
theorem dX8_waysToWin_101 : decode cX8_waysToWin 101 = .ok (.iload_n 3, 1) := by decide +kernel
theorem dX8_waysToWin_102 : decode cX8_waysToWin 102 = .ok (.iload 4, 2) := by decide +kernel
theorem dX8_waysToWin_104 : decode cX8_waysToWin 104 = .ok (.invokevirtual 277, 3) := by decide +kernel
theorem dX8_waysToWin_107 : decode cX8_waysToWin 107 = .ok (.iadd, 1) := by decide +kernel
theorem dX8_waysToWin_108 : decode cX8_waysToWin 108 = .ok (.istore 5, 2) := by decide +kernel
theorem dX8_waysToWin_110 : decode cX8_waysToWin 110 = .ok (.aload_n 0, 1) := by decide +kernel
theorem dX8_waysToWin_111 : decode cX8_waysToWin 111 = .ok (.getfield 59, 3) := by decide +kernel
theorem dX8_waysToWin_114 : decode cX8_waysToWin 114 = .ok (.iconst 0, 1) := by decide +kernel
theorem dX8_waysToWin_115 : decode cX8_waysToWin 115 = .ok (.aload_n 0, 1) := by decide +kernel
theorem dX8_waysToWin_116 : decode cX8_waysToWin 116 = .ok (.getfield 56, 3) := by decide +kernel
theorem dX8_waysToWin_119 : decode cX8_waysToWin 119 = .ok (.iconst 0, 1) := by decide +kernel
theorem dX8_waysToWin_120 : decode cX8_waysToWin 120 = .ok (.bipush 32, 2) := by decide +kernel
theorem dX8_waysToWin_122 : decode cX8_waysToWin 122 = .ok (.invokestatic 280, 3) := by decide +kernel
theorem dX8_waysToWin_125 : decode cX8_waysToWin 125 = .ok (.iinc 6 1, 3) := by decide +kernel
theorem dX8_waysToWin_128 : decode cX8_waysToWin 128 = .ok (.goto (-38), 3) := by decide +kernel
theorem dX8_waysToWin_131 : decode cX8_waysToWin 131 = .ok (.iload 5, 2) := by decide +kernel
theorem dX8_waysToWin_133 : decode cX8_waysToWin 133 = .ok (.ireturn, 1) := by decide +kernel
theorem dX8_winsByToss_0 : decode cX8_winsByToss 0 = .ok (.aload_n 0, 1) := by decide +kernel
theorem dX8_winsByToss_1 : decode cX8_winsByToss 1 = .ok (.getfield 59, 3) := by decide +kernel
theorem dX8_winsByToss_4 : decode cX8_winsByToss 4 = .ok (.iconst 0, 1) := by decide +kernel
theorem dX8_winsByToss_5 : decode cX8_winsByToss 5 = .ok (.invokestatic 207, 3) := by decide +kernel
theorem dX8_winsByToss_8 : decode cX8_winsByToss 8 = .ok (.iconst 0, 1) := by decide +kernel
theorem dX8_winsByToss_9 : decode cX8_winsByToss 9 = .ok (.istore_n 3, 1) := by decide +kernel
theorem dX8_winsByToss_10 : decode cX8_winsByToss 10 = .ok (.iconst 1, 1) := by decide +kernel
theorem dX8_winsByToss_11 : decode cX8_winsByToss 11 = .ok (.istore 4, 2) := by decide +kernel
theorem dX8_winsByToss_13 : decode cX8_winsByToss 13 = .ok (.iload 4, 2) := by decide +kernel
theorem dX8_winsByToss_15 : decode cX8_winsByToss 15 = .ok (.aload_n 0, 1) := by decide +kernel
theorem dX8_winsByToss_16 : decode cX8_winsByToss 16 = .ok (.getfield 56, 3) := by decide +kernel
theorem dX8_winsByToss_19 : decode cX8_winsByToss 19 = .ok (.arraylength, 1) := by decide +kernel
theorem dX8_winsByToss_20 : decode cX8_winsByToss 20 = .ok (.if_icmp .ge 138, 3) := by decide +kernel
theorem dX8_winsByToss_23 : decode cX8_winsByToss 23 = .ok (.aload_n 0, 1) := by decide +kernel
theorem dX8_winsByToss_24 : decode cX8_winsByToss 24 = .ok (.getfield 56, 3) := by decide +kernel
theorem dX8_winsByToss_27 : decode cX8_winsByToss 27 = .ok (.iload 4, 2) := by decide +kernel
theorem dX8_winsByToss_29 : decode cX8_winsByToss 29 = .ok (.iaload, 1) := by decide +kernel
theorem dX8_winsByToss_30 : decode cX8_winsByToss 30 = .ok (.ifCond .ne 6, 3) := by decide +kernel
theorem dX8_winsByToss_33 : decode cX8_winsByToss 33 = .ok (.goto 119, 3) := by decide +kernel
theorem dX8_winsByToss_36 : decode cX8_winsByToss 36 = .ok (.iconst 0, 1) := by decide +kernel
theorem dX8_winsByToss_37 : decode cX8_winsByToss 37 = .ok (.istore 5, 2) := by decide +kernel
theorem dX8_winsByToss_39 : decode cX8_winsByToss 39 = .ok (.iload 5, 2) := by decide +kernel
theorem dX8_winsByToss_41 : decode cX8_winsByToss 41 = .ok (.iconst 2, 1) := by decide +kernel
theorem dX8_winsByToss_42 : decode cX8_winsByToss 42 = .ok (.if_icmp .ge 110, 3) := by decide +kernel
theorem dX8_winsByToss_45 : decode cX8_winsByToss 45 = .ok (.aload_n 0, 1) := by decide +kernel
theorem dX8_winsByToss_46 : decode cX8_winsByToss 46 = .ok (.iload 4, 2) := by decide +kernel
theorem dX8_winsByToss_48 : decode cX8_winsByToss 48 = .ok (.iload 5, 2) := by decide +kernel
theorem dX8_winsByToss_50 : decode cX8_winsByToss 50 = .ok (.invokevirtual 165, 3) := by decide +kernel
theorem dX8_winsByToss_53 : decode cX8_winsByToss 53 = .ok (.istore 6, 2) := by decide +kernel
theorem dX8_winsByToss_55 : decode cX8_winsByToss 55 = .ok (.aload_n 0, 1) := by decide +kernel
theorem dX8_winsByToss_56 : decode cX8_winsByToss 56 = .ok (.iload 6, 2) := by decide +kernel
theorem dX8_winsByToss_58 : decode cX8_winsByToss 58 = .ok (.invokevirtual 224, 3) := by decide +kernel
theorem dX8_winsByToss_61 : decode cX8_winsByToss 61 = .ok (.istore 7, 2) := by decide +kernel
theorem dX8_winsByToss_63 : decode cX8_winsByToss 63 = .ok (.iload 7, 2) := by decide +kernel
theorem dX8_winsByToss_65 : decode cX8_winsByToss 65 = .ok (.iconst (-1), 1) := by decide +kernel
theorem dX8_winsByToss_66 : decode cX8_winsByToss 66 = .ok (.if_icmp .eq 16, 3) := by decide +kernel
theorem dX8_winsByToss_69 : decode cX8_winsByToss 69 = .ok (.iload_n 2, 1) := by decide +kernel
theorem dX8_winsByToss_70 : decode cX8_winsByToss 70 = .ok (.iload 7, 2) := by decide +kernel
theorem dX8_winsByToss_72 : decode cX8_winsByToss 72 = .ok (.invokestatic 152, 3) := by decide +kernel
theorem dX8_winsByToss_75 : decode cX8_winsByToss 75 = .ok (.ifCond .eq 7, 3) := by decide +kernel
theorem dX8_winsByToss_78 : decode cX8_winsByToss 78 = .ok (.iconst 1, 1) := by decide +kernel
theorem dX8_winsByToss_79 : decode cX8_winsByToss 79 = .ok (.goto 4, 3) := by decide +kernel
theorem dX8_winsByToss_82 : decode cX8_winsByToss 82 = .ok (.iconst 0, 1) := by decide +kernel
theorem dX8_winsByToss_83 : decode cX8_winsByToss 83 = .ok (.istore 8, 2) := by decide +kernel
theorem dX8_winsByToss_85 : decode cX8_winsByToss 85 = .ok (.iload 8, 2) := by decide +kernel
theorem dX8_winsByToss_87 : decode cX8_winsByToss 87 = .ok (.ifCond .eq 22, 3) := by decide +kernel
theorem dX8_winsByToss_90 : decode cX8_winsByToss 90 = .ok (.iload_n 1, 1) := by decide +kernel
theorem dX8_winsByToss_91 : decode cX8_winsByToss 91 = .ok (.iload 7, 2) := by decide +kernel
theorem dX8_winsByToss_93 : decode cX8_winsByToss 93 = .ok (.invokestatic 152, 3) := by decide +kernel
theorem dX8_winsByToss_96 : decode cX8_winsByToss 96 = .ok (.ifCond .eq 13, 3) := by decide +kernel
theorem dX8_winsByToss_99 : decode cX8_winsByToss 99 = .ok (.iload_n 3, 1) := by decide +kernel
theorem dX8_winsByToss_100 : decode cX8_winsByToss 100 = .ok (.aload_n 0, 1) := by decide +kernel
theorem dX8_winsByToss_101 : decode cX8_winsByToss 101 = .ok (.getfield 56, 3) := by decide +kernel
theorem dX8_winsByToss_104 : decode cX8_winsByToss 104 = .ok (.iload 4, 2) := by decide +kernel
theorem dX8_winsByToss_106 : decode cX8_winsByToss 106 = .ok (.iaload, 1) := by decide +kernel
theorem dX8_winsByToss_107 : decode cX8_winsByToss 107 = .ok (.iadd, 1) := by decide +kernel
theorem dX8_winsByToss_108 : decode cX8_winsByToss 108 = .ok (.istore_n 3, 1) := by decide +kernel
theorem dX8_winsByToss_109 : decode cX8_winsByToss 109 = .ok (.iload 8, 2) := by decide +kernel
theorem dX8_winsByToss_111 : decode cX8_winsByToss 111 = .ok (.ifCond .ne 35, 3) := by decide +kernel
theorem dX8_winsByToss_114 : decode cX8_winsByToss 114 = .ok (.iload 6, 2) := by decide +kernel
theorem dX8_winsByToss_116 : decode cX8_winsByToss 116 = .ok (.ifCond .lt 30, 3) := by decide +kernel
theorem dX8_winsByToss_119 : decode cX8_winsByToss 119 = .ok (.iload 6, 2) := by decide +kernel
theorem dX8_winsByToss_121 : decode cX8_winsByToss 121 = .ok (.aload_n 0, 1) := by decide +kernel
theorem dX8_winsByToss_122 : decode cX8_winsByToss 122 = .ok (.getfield 59, 3) := by decide +kernel
theorem dX8_winsByToss_125 : decode cX8_winsByToss 125 = .ok (.arraylength, 1) := by decide +kernel
theorem dX8_winsByToss_126 : decode cX8_winsByToss 126 = .ok (.if_icmp .ge 20, 3) := by decide +kernel
theorem dX8_winsByToss_129 : decode cX8_winsByToss 129 = .ok (.aload_n 0, 1) := by decide +kernel
theorem dX8_winsByToss_130 : decode cX8_winsByToss 130 = .ok (.getfield 59, 3) := by decide +kernel
theorem dX8_winsByToss_133 : decode cX8_winsByToss 133 = .ok (.iload 6, 2) := by decide +kernel
theorem dX8_winsByToss_135 : decode cX8_winsByToss 135 = .ok (.dup2, 1) := by decide +kernel
theorem dX8_winsByToss_136 : decode cX8_winsByToss 136 = .ok (.iaload, 1) := by decide +kernel
theorem dX8_winsByToss_137 : decode cX8_winsByToss 137 = .ok (.aload_n 0, 1) := by decide +kernel
theorem dX8_winsByToss_138 : decode cX8_winsByToss 138 = .ok (.getfield 56, 3) := by decide +kernel
theorem dX8_winsByToss_141 : decode cX8_winsByToss 141 = .ok (.iload 4, 2) := by decide +kernel
theorem dX8_winsByToss_143 : decode cX8_winsByToss 143 = .ok (.iaload, 1) := by decide +kernel
theorem dX8_winsByToss_144 : decode cX8_winsByToss 144 = .ok (.iadd, 1) := by decide +kernel
theorem dX8_winsByToss_145 : decode cX8_winsByToss 145 = .ok (.iastore, 1) := by decide +kernel
theorem dX8_winsByToss_146 : decode cX8_winsByToss 146 = .ok (.iinc 5 1, 3) := by decide +kernel
theorem dX8_winsByToss_149 : decode cX8_winsByToss 149 = .ok (.goto (-110), 3) := by decide +kernel
theorem dX8_winsByToss_152 : decode cX8_winsByToss 152 = .ok (.iinc 4 1, 3) := by decide +kernel
theorem dX8_winsByToss_155 : decode cX8_winsByToss 155 = .ok (.goto (-142), 3) := by decide +kernel
theorem dX8_winsByToss_158 : decode cX8_winsByToss 158 = .ok (.iload_n 3, 1) := by decide +kernel
theorem dX8_winsByToss_159 : decode cX8_winsByToss 159 = .ok (.ireturn, 1) := by decide +kernel
theorem dX8_betsThatHit_0 : decode cX8_betsThatHit 0 = .ok (.iconst 0, 1) := by decide +kernel
theorem dX8_betsThatHit_1 : decode cX8_betsThatHit 1 = .ok (.istore_n 3, 1) := by decide +kernel
theorem dX8_betsThatHit_2 : decode cX8_betsThatHit 2 = .ok (.iconst 0, 1) := by decide +kernel
theorem dX8_betsThatHit_3 : decode cX8_betsThatHit 3 = .ok (.istore 4, 2) := by decide +kernel
theorem dX8_betsThatHit_5 : decode cX8_betsThatHit 5 = .ok (.iload 4, 2) := by decide +kernel
theorem dX8_betsThatHit_7 : decode cX8_betsThatHit 7 = .ok (.iconst 1, 1) := by decide +kernel
theorem dX8_betsThatHit_8 : decode cX8_betsThatHit 8 = .ok (.aload_n 0, 1) := by decide +kernel
theorem dX8_betsThatHit_9 : decode cX8_betsThatHit 9 = .ok (.getfield 90, 3) := by decide +kernel
theorem dX8_betsThatHit_12 : decode cX8_betsThatHit 12 = .ok (.ishl, 1) := by decide +kernel
theorem dX8_betsThatHit_13 : decode cX8_betsThatHit 13 = .ok (.if_icmp .ge 33, 3) := by decide +kernel
theorem dX8_betsThatHit_16 : decode cX8_betsThatHit 16 = .ok (.aload_n 1, 1) := by decide +kernel
theorem dX8_betsThatHit_17 : decode cX8_betsThatHit 17 = .ok (.iload 4, 2) := by decide +kernel
theorem dX8_betsThatHit_19 : decode cX8_betsThatHit 19 = .ok (.aload_n 0, 1) := by decide +kernel
theorem dX8_betsThatHit_20 : decode cX8_betsThatHit 20 = .ok (.getfield 90, 3) := by decide +kernel
theorem dX8_betsThatHit_23 : decode cX8_betsThatHit 23 = .ok (.invokevirtual 260, 3) := by decide +kernel
theorem dX8_betsThatHit_26 : decode cX8_betsThatHit 26 = .ok (.iload_n 2, 1) := by decide +kernel
theorem dX8_betsThatHit_27 : decode cX8_betsThatHit 27 = .ok (.invokestatic 152, 3) := by decide +kernel
theorem dX8_betsThatHit_30 : decode cX8_betsThatHit 30 = .ok (.ifCond .eq 10, 3) := by decide +kernel
theorem dX8_betsThatHit_33 : decode cX8_betsThatHit 33 = .ok (.iload_n 3, 1) := by decide +kernel
theorem dX8_betsThatHit_34 : decode cX8_betsThatHit 34 = .ok (.iconst 1, 1) := by decide +kernel
theorem dX8_betsThatHit_35 : decode cX8_betsThatHit 35 = .ok (.iload 4, 2) := by decide +kernel
theorem dX8_betsThatHit_37 : decode cX8_betsThatHit 37 = .ok (.ishl, 1) := by decide +kernel
theorem dX8_betsThatHit_38 : decode cX8_betsThatHit 38 = .ok (.ior, 1) := by decide +kernel
theorem dX8_betsThatHit_39 : decode cX8_betsThatHit 39 = .ok (.istore_n 3, 1) := by decide +kernel
theorem dX8_betsThatHit_40 : decode cX8_betsThatHit 40 = .ok (.iinc 4 1, 3) := by decide +kernel
theorem dX8_betsThatHit_43 : decode cX8_betsThatHit 43 = .ok (.goto (-38), 3) := by decide +kernel
theorem dX8_betsThatHit_46 : decode cX8_betsThatHit 46 = .ok (.iload_n 3, 1) := by decide +kernel
theorem dX8_betsThatHit_47 : decode cX8_betsThatHit 47 = .ok (.ireturn, 1) := by decide +kernel
theorem dX8_rowsLeft_0 : decode cX8_rowsLeft 0 = .ok (.aload_n 0, 1) := by decide +kernel
theorem dX8_rowsLeft_1 : decode cX8_rowsLeft 1 = .ok (.aload_n 0, 1) := by decide +kernel
theorem dX8_rowsLeft_2 : decode cX8_rowsLeft 2 = .ok (.getfield 19, 3) := by decide +kernel
theorem dX8_rowsLeft_5 : decode cX8_rowsLeft 5 = .ok (.getfield 93, 3) := by decide +kernel
theorem dX8_rowsLeft_8 : decode cX8_rowsLeft 8 = .ok (.iload_n 1, 1) := by decide +kernel
theorem dX8_rowsLeft_9 : decode cX8_rowsLeft 9 = .ok (.iaload, 1) := by decide +kernel
theorem dX8_rowsLeft_10 : decode cX8_rowsLeft 10 = .ok (.invokevirtual 141, 3) := by decide +kernel
theorem dX8_rowsLeft_13 : decode cX8_rowsLeft 13 = .ok (.astore_n 2, 1) := by decide +kernel
theorem dX8_rowsLeft_14 : decode cX8_rowsLeft 14 = .ok (.iconst 1, 1) := by decide +kernel
theorem dX8_rowsLeft_15 : decode cX8_rowsLeft 15 = .ok (.iconst 1, 1) := by decide +kernel
theorem dX8_rowsLeft_16 : decode cX8_rowsLeft 16 = .ok (.aload_n 0, 1) := by decide +kernel
theorem dX8_rowsLeft_17 : decode cX8_rowsLeft 17 = .ok (.getfield 90, 3) := by decide +kernel
theorem dX8_rowsLeft_20 : decode cX8_rowsLeft 20 = .ok (.ishl, 1) := by decide +kernel
theorem dX8_rowsLeft_21 : decode cX8_rowsLeft 21 = .ok (.ishl, 1) := by decide +kernel
theorem dX8_rowsLeft_22 : decode cX8_rowsLeft 22 = .ok (.iconst 1, 1) := by decide +kernel
theorem dX8_rowsLeft_23 : decode cX8_rowsLeft 23 = .ok (.isub, 1) := by decide +kernel
theorem dX8_rowsLeft_24 : decode cX8_rowsLeft 24 = .ok (.istore_n 3, 1) := by decide +kernel
theorem dX8_rowsLeft_25 : decode cX8_rowsLeft 25 = .ok (.iconst 0, 1) := by decide +kernel
theorem dX8_rowsLeft_26 : decode cX8_rowsLeft 26 = .ok (.istore 4, 2) := by decide +kernel
theorem dX8_rowsLeft_28 : decode cX8_rowsLeft 28 = .ok (.iload 4, 2) := by decide +kernel
theorem dX8_rowsLeft_30 : decode cX8_rowsLeft 30 = .ok (.aload_n 0, 1) := by decide +kernel
theorem dX8_rowsLeft_31 : decode cX8_rowsLeft 31 = .ok (.getfield 19, 3) := by decide +kernel
theorem dX8_rowsLeft_34 : decode cX8_rowsLeft 34 = .ok (.getfield 200, 3) := by decide +kernel
theorem dX8_rowsLeft_37 : decode cX8_rowsLeft 37 = .ok (.if_icmp .ge 72, 3) := by decide +kernel
theorem dX8_rowsLeft_40 : decode cX8_rowsLeft 40 = .ok (.iload 4, 2) := by decide +kernel
theorem dX8_rowsLeft_42 : decode cX8_rowsLeft 42 = .ok (.bipush 6, 2) := by decide +kernel
theorem dX8_rowsLeft_44 : decode cX8_rowsLeft 44 = .ok (.if_icmp .ge 65, 3) := by decide +kernel
theorem dX8_rowsLeft_47 : decode cX8_rowsLeft 47 = .ok (.aload_n 0, 1) := by decide +kernel
theorem dX8_rowsLeft_48 : decode cX8_rowsLeft 48 = .ok (.getfield 19, 3) := by decide +kernel
theorem dX8_rowsLeft_51 : decode cX8_rowsLeft 51 = .ok (.getfield 286, 3) := by decide +kernel
theorem dX8_rowsLeft_54 : decode cX8_rowsLeft 54 = .ok (.iload 4, 2) := by decide +kernel
theorem dX8_rowsLeft_56 : decode cX8_rowsLeft 56 = .ok (.iaload, 1) := by decide +kernel
theorem dX8_rowsLeft_57 : decode cX8_rowsLeft 57 = .ok (.iload_n 1, 1) := by decide +kernel
theorem dX8_rowsLeft_58 : decode cX8_rowsLeft 58 = .ok (.if_icmp .ne 45, 3) := by decide +kernel
theorem dX8_rowsLeft_61 : decode cX8_rowsLeft 61 = .ok (.aload_n 0, 1) := by decide +kernel
theorem dX8_rowsLeft_62 : decode cX8_rowsLeft 62 = .ok (.aload_n 2, 1) := by decide +kernel
theorem dX8_rowsLeft_63 : decode cX8_rowsLeft 63 = .ok (.aload_n 0, 1) := by decide +kernel
theorem dX8_rowsLeft_64 : decode cX8_rowsLeft 64 = .ok (.getfield 19, 3) := by decide +kernel
theorem dX8_rowsLeft_67 : decode cX8_rowsLeft 67 = .ok (.getfield 289, 3) := by decide +kernel
theorem dX8_rowsLeft_70 : decode cX8_rowsLeft 70 = .ok (.iload 4, 2) := by decide +kernel
theorem dX8_rowsLeft_72 : decode cX8_rowsLeft 72 = .ok (.iaload, 1) := by decide +kernel
theorem dX8_rowsLeft_73 : decode cX8_rowsLeft 73 = .ok (.invokevirtual 292, 3) := by decide +kernel
theorem dX8_rowsLeft_76 : decode cX8_rowsLeft 76 = .ok (.istore 5, 2) := by decide +kernel
theorem dX8_rowsLeft_78 : decode cX8_rowsLeft 78 = .ok (.iload_n 3, 1) := by decide +kernel
theorem dX8_rowsLeft_79 : decode cX8_rowsLeft 79 = .ok (.aload_n 0, 1) := by decide +kernel
theorem dX8_rowsLeft_80 : decode cX8_rowsLeft 80 = .ok (.getfield 19, 3) := by decide +kernel
theorem dX8_rowsLeft_83 : decode cX8_rowsLeft 83 = .ok (.getfield 296, 3) := by decide +kernel
theorem dX8_rowsLeft_86 : decode cX8_rowsLeft 86 = .ok (.iload 4, 2) := by decide +kernel
theorem dX8_rowsLeft_88 : decode cX8_rowsLeft 88 = .ok (.baload, 1) := by decide +kernel
theorem dX8_rowsLeft_89 : decode cX8_rowsLeft 89 = .ok (.ifCond .eq 8, 3) := by decide +kernel
theorem dX8_rowsLeft_92 : decode cX8_rowsLeft 92 = .ok (.iload 5, 2) := by decide +kernel
theorem dX8_rowsLeft_94 : decode cX8_rowsLeft 94 = .ok (.goto 7, 3) := by decide +kernel
theorem dX8_rowsLeft_97 : decode cX8_rowsLeft 97 = .ok (.iload 5, 2) := by decide +kernel
theorem dX8_rowsLeft_99 : decode cX8_rowsLeft 99 = .ok (.iconst (-1), 1) := by decide +kernel
theorem dX8_rowsLeft_100 : decode cX8_rowsLeft 100 = .ok (.ixor, 1) := by decide +kernel
theorem dX8_rowsLeft_101 : decode cX8_rowsLeft 101 = .ok (.iand, 1) := by decide +kernel
theorem dX8_rowsLeft_102 : decode cX8_rowsLeft 102 = .ok (.istore_n 3, 1) := by decide +kernel
theorem dX8_rowsLeft_103 : decode cX8_rowsLeft 103 = .ok (.iinc 4 1, 3) := by decide +kernel
theorem dX8_rowsLeft_106 : decode cX8_rowsLeft 106 = .ok (.goto (-78), 3) := by decide +kernel
theorem dX8_rowsLeft_109 : decode cX8_rowsLeft 109 = .ok (.iload_n 3, 1) := by decide +kernel
theorem dX8_rowsLeft_110 : decode cX8_rowsLeft 110 = .ok (.ireturn, 1) := by decide +kernel
theorem dX8_nextTry_0 : decode cX8_nextTry 0 = .ok (.aload_n 0, 1) := by decide +kernel
theorem dX8_nextTry_1 : decode cX8_nextTry 1 = .ok (.iload_n 1, 1) := by decide +kernel
theorem dX8_nextTry_2 : decode cX8_nextTry 2 = .ok (.invokevirtual 132, 3) := by decide +kernel
theorem dX8_nextTry_5 : decode cX8_nextTry 5 = .ok (.istore_n 2, 1) := by decide +kernel
theorem dX8_nextTry_6 : decode cX8_nextTry 6 = .ok (.iload_n 2, 1) := by decide +kernel
theorem dX8_nextTry_7 : decode cX8_nextTry 7 = .ok (.ifCond .ne 5, 3) := by decide +kernel
theorem dX8_nextTry_10 : decode cX8_nextTry 10 = .ok (.iconst (-1), 1) := by decide +kernel
theorem dX8_nextTry_11 : decode cX8_nextTry 11 = .ok (.ireturn, 1) := by decide +kernel
theorem dX8_nextTry_12 : decode cX8_nextTry 12 = .ok (.aload_n 0, 1) := by decide +kernel
theorem dX8_nextTry_13 : decode cX8_nextTry 13 = .ok (.aload_n 0, 1) := by decide +kernel
theorem dX8_nextTry_14 : decode cX8_nextTry 14 = .ok (.getfield 19, 3) := by decide +kernel
theorem dX8_nextTry_17 : decode cX8_nextTry 17 = .ok (.getfield 93, 3) := by decide +kernel
theorem dX8_nextTry_20 : decode cX8_nextTry 20 = .ok (.iload_n 1, 1) := by decide +kernel
theorem dX8_nextTry_21 : decode cX8_nextTry 21 = .ok (.iaload, 1) := by decide +kernel
theorem dX8_nextTry_22 : decode cX8_nextTry 22 = .ok (.invokevirtual 141, 3) := by decide +kernel
theorem dX8_nextTry_25 : decode cX8_nextTry 25 = .ok (.astore_n 3, 1) := by decide +kernel
theorem dX8_nextTry_26 : decode cX8_nextTry 26 = .ok (.iload_n 2, 1) := by decide +kernel
theorem dX8_nextTry_27 : decode cX8_nextTry 27 = .ok (.invokestatic 127, 3) := by decide +kernel
theorem dX8_nextTry_30 : decode cX8_nextTry 30 = .ok (.istore 4, 2) := by decide +kernel
theorem dX8_nextTry_32 : decode cX8_nextTry 32 = .ok (.iconst 0, 1) := by decide +kernel
theorem dX8_nextTry_33 : decode cX8_nextTry 33 = .ok (.istore 5, 2) := by decide +kernel
theorem dX8_nextTry_35 : decode cX8_nextTry 35 = .ok (.iload 4, 2) := by decide +kernel
theorem dX8_nextTry_37 : decode cX8_nextTry 37 = .ok (.iconst 1, 1) := by decide +kernel
theorem dX8_nextTry_38 : decode cX8_nextTry 38 = .ok (.iadd, 1) := by decide +kernel
theorem dX8_nextTry_39 : decode cX8_nextTry 39 = .ok (.istore 6, 2) := by decide +kernel
theorem dX8_nextTry_41 : decode cX8_nextTry 41 = .ok (.iconst 0, 1) := by decide +kernel
theorem dX8_nextTry_42 : decode cX8_nextTry 42 = .ok (.istore 7, 2) := by decide +kernel
theorem dX8_nextTry_44 : decode cX8_nextTry 44 = .ok (.iload 7, 2) := by decide +kernel
theorem dX8_nextTry_46 : decode cX8_nextTry 46 = .ok (.iconst 1, 1) := by decide +kernel
theorem dX8_nextTry_47 : decode cX8_nextTry 47 = .ok (.aload_n 0, 1) := by decide +kernel
theorem dX8_nextTry_48 : decode cX8_nextTry 48 = .ok (.getfield 90, 3) := by decide +kernel
theorem dX8_nextTry_51 : decode cX8_nextTry 51 = .ok (.ishl, 1) := by decide +kernel
theorem dX8_nextTry_52 : decode cX8_nextTry 52 = .ok (.if_icmp .ge 50, 3) := by decide +kernel
theorem dX8_nextTry_55 : decode cX8_nextTry 55 = .ok (.iload_n 2, 1) := by decide +kernel
theorem dX8_nextTry_56 : decode cX8_nextTry 56 = .ok (.aload_n 0, 1) := by decide +kernel
theorem dX8_nextTry_57 : decode cX8_nextTry 57 = .ok (.aload_n 3, 1) := by decide +kernel
theorem dX8_nextTry_58 : decode cX8_nextTry 58 = .ok (.iload 7, 2) := by decide +kernel
theorem dX8_nextTry_60 : decode cX8_nextTry 60 = .ok (.invokevirtual 292, 3) := by decide +kernel
theorem dX8_nextTry_63 : decode cX8_nextTry 63 = .ok (.iand, 1) := by decide +kernel
theorem dX8_nextTry_64 : decode cX8_nextTry 64 = .ok (.invokestatic 127, 3) := by decide +kernel
theorem dX8_nextTry_67 : decode cX8_nextTry 67 = .ok (.istore 8, 2) := by decide +kernel
theorem dX8_nextTry_69 : decode cX8_nextTry 69 = .ok (.iload 8, 2) := by decide +kernel
theorem dX8_nextTry_71 : decode cX8_nextTry 71 = .ok (.iload 4, 2) := by decide +kernel
theorem dX8_nextTry_73 : decode cX8_nextTry 73 = .ok (.iload 8, 2) := by decide +kernel
theorem dX8_nextTry_75 : decode cX8_nextTry 75 = .ok (.isub, 1) := by decide +kernel
theorem dX8_nextTry_76 : decode cX8_nextTry 76 = .ok (.invokestatic 300, 3) := by decide +kernel
theorem dX8_nextTry_79 : decode cX8_nextTry 79 = .ok (.istore 9, 2) := by decide +kernel
theorem dX8_nextTry_81 : decode cX8_nextTry 81 = .ok (.iload 9, 2) := by decide +kernel
theorem dX8_nextTry_83 : decode cX8_nextTry 83 = .ok (.iload 6, 2) := by decide +kernel
theorem dX8_nextTry_85 : decode cX8_nextTry 85 = .ok (.if_icmp .ge 11, 3) := by decide +kernel
theorem dX8_nextTry_88 : decode cX8_nextTry 88 = .ok (.iload 9, 2) := by decide +kernel
theorem dX8_nextTry_90 : decode cX8_nextTry 90 = .ok (.istore 6, 2) := by decide +kernel
theorem dX8_nextTry_92 : decode cX8_nextTry 92 = .ok (.iload 7, 2) := by decide +kernel
theorem dX8_nextTry_94 : decode cX8_nextTry 94 = .ok (.istore 5, 2) := by decide +kernel
theorem dX8_nextTry_96 : decode cX8_nextTry 96 = .ok (.iinc 7 1, 3) := by decide +kernel
theorem dX8_nextTry_99 : decode cX8_nextTry 99 = .ok (.goto (-55), 3) := by decide +kernel
theorem dX8_nextTry_102 : decode cX8_nextTry 102 = .ok (.iload 5, 2) := by decide +kernel
theorem dX8_nextTry_104 : decode cX8_nextTry 104 = .ok (.ireturn, 1) := by decide +kernel
theorem dX8_fromItsEnd_0 : decode cX8_fromItsEnd 0 = .ok (.iconst 0, 1) := by decide +kernel
theorem dX8_fromItsEnd_1 : decode cX8_fromItsEnd 1 = .ok (.istore_n 2, 1) := by decide +kernel
theorem dX8_fromItsEnd_2 : decode cX8_fromItsEnd 2 = .ok (.iconst 0, 1) := by decide +kernel
theorem dX8_fromItsEnd_3 : decode cX8_fromItsEnd 3 = .ok (.istore_n 3, 1) := by decide +kernel
theorem dX8_fromItsEnd_4 : decode cX8_fromItsEnd 4 = .ok (.iload_n 3, 1) := by decide +kernel
theorem dX8_fromItsEnd_5 : decode cX8_fromItsEnd 5 = .ok (.iload_n 1, 1) := by decide +kernel
theorem dX8_fromItsEnd_6 : decode cX8_fromItsEnd 6 = .ok (.if_icmp .ge 19, 3) := by decide +kernel
theorem dX8_fromItsEnd_9 : decode cX8_fromItsEnd 9 = .ok (.iconst 2, 1) := by decide +kernel
theorem dX8_fromItsEnd_10 : decode cX8_fromItsEnd 10 = .ok (.iload_n 2, 1) := by decide +kernel
theorem dX8_fromItsEnd_11 : decode cX8_fromItsEnd 11 = .ok (.imul, 1) := by decide +kernel
theorem dX8_fromItsEnd_12 : decode cX8_fromItsEnd 12 = .ok (.iload_n 0, 1) := by decide +kernel
theorem dX8_fromItsEnd_13 : decode cX8_fromItsEnd 13 = .ok (.iload_n 3, 1) := by decide +kernel
theorem dX8_fromItsEnd_14 : decode cX8_fromItsEnd 14 = .ok (.ishr, 1) := by decide +kernel
theorem dX8_fromItsEnd_15 : decode cX8_fromItsEnd 15 = .ok (.iconst 1, 1) := by decide +kernel
theorem dX8_fromItsEnd_16 : decode cX8_fromItsEnd 16 = .ok (.iand, 1) := by decide +kernel
theorem dX8_fromItsEnd_17 : decode cX8_fromItsEnd 17 = .ok (.iadd, 1) := by decide +kernel
theorem dX8_fromItsEnd_18 : decode cX8_fromItsEnd 18 = .ok (.istore_n 2, 1) := by decide +kernel
theorem dX8_fromItsEnd_19 : decode cX8_fromItsEnd 19 = .ok (.iinc 3 1, 3) := by decide +kernel
theorem dX8_fromItsEnd_22 : decode cX8_fromItsEnd 22 = .ok (.goto (-18), 3) := by decide +kernel
theorem dX8_fromItsEnd_25 : decode cX8_fromItsEnd 25 = .ok (.iload_n 2, 1) := by decide +kernel
theorem dX8_fromItsEnd_26 : decode cX8_fromItsEnd 26 = .ok (.ireturn, 1) := by decide +kernel
theorem dX8_withOtherSigns_0 : decode cX8_withOtherSigns 0 = .ok (.iload_n 0, 1) := by decide +kernel
theorem dX8_withOtherSigns_1 : decode cX8_withOtherSigns 1 = .ok (.iconst 1, 1) := by decide +kernel
theorem dX8_withOtherSigns_2 : decode cX8_withOtherSigns 2 = .ok (.iload_n 1, 1) := by decide +kernel
theorem dX8_withOtherSigns_3 : decode cX8_withOtherSigns 3 = .ok (.ishl, 1) := by decide +kernel
theorem dX8_withOtherSigns_4 : decode cX8_withOtherSigns 4 = .ok (.iconst 1, 1) := by decide +kernel
theorem dX8_withOtherSigns_5 : decode cX8_withOtherSigns 5 = .ok (.isub, 1) := by decide +kernel
theorem dX8_withOtherSigns_6 : decode cX8_withOtherSigns 6 = .ok (.ixor, 1) := by decide +kernel
theorem dX8_withOtherSigns_7 : decode cX8_withOtherSigns 7 = .ok (.ireturn, 1) := by decide +kernel
theorem dX9_init_0 : decode cX9_init 0 = .ok (.aload_n 0, 1) := by decide +kernel
theorem dX9_init_1 : decode cX9_init 1 = .ok (.invokespecial 1, 3) := by decide +kernel
theorem dX9_init_4 : decode cX9_init 4 = .ok (.aload_n 0, 1) := by decide +kernel
theorem dX9_init_5 : decode cX9_init 5 = .ok (.iconst 4, 1) := by decide +kernel
theorem dX9_init_6 : decode cX9_init 6 = .ok (.newarray .int, 2) := by decide +kernel
theorem dX9_init_8 : decode cX9_init 8 = .ok (.putfield 7, 3) := by decide +kernel
theorem dX9_init_11 : decode cX9_init 11 = .ok (.aload_n 0, 1) := by decide +kernel
theorem dX9_init_12 : decode cX9_init 12 = .ok (.iconst 4, 1) := by decide +kernel
theorem dX9_init_13 : decode cX9_init 13 = .ok (.newarray .int, 2) := by decide +kernel
theorem dX9_init_15 : decode cX9_init 15 = .ok (.putfield 13, 3) := by decide +kernel
theorem dX9_init_18 : decode cX9_init 18 = .ok (.aload_n 0, 1) := by decide +kernel
theorem dX9_init_19 : decode cX9_init 19 = .ok (.iconst 4, 1) := by decide +kernel
theorem dX9_init_20 : decode cX9_init 20 = .ok (.newarray .int, 2) := by decide +kernel
theorem dX9_init_22 : decode cX9_init 22 = .ok (.putfield 16, 3) := by decide +kernel
theorem dX9_init_25 : decode cX9_init 25 = .ok (.aload_n 0, 1) := by decide +kernel
theorem dX9_init_26 : decode cX9_init 26 = .ok (.bipush 6, 2) := by decide +kernel
theorem dX9_init_28 : decode cX9_init 28 = .ok (.newarray .int, 2) := by decide +kernel
theorem dX9_init_30 : decode cX9_init 30 = .ok (.putfield 19, 3) := by decide +kernel
theorem dX9_init_33 : decode cX9_init 33 = .ok (.aload_n 0, 1) := by decide +kernel
theorem dX9_init_34 : decode cX9_init 34 = .ok (.bipush 6, 2) := by decide +kernel
theorem dX9_init_36 : decode cX9_init 36 = .ok (.newarray .int, 2) := by decide +kernel
theorem dX9_init_38 : decode cX9_init 38 = .ok (.putfield 22, 3) := by decide +kernel
theorem dX9_init_41 : decode cX9_init 41 = .ok (.aload_n 0, 1) := by decide +kernel
theorem dX9_init_42 : decode cX9_init 42 = .ok (.bipush 6, 2) := by decide +kernel
theorem dX9_init_44 : decode cX9_init 44 = .ok (.newarray .int, 2) := by decide +kernel
theorem dX9_init_46 : decode cX9_init 46 = .ok (.putfield 25, 3) := by decide +kernel
theorem dX9_init_49 : decode cX9_init 49 = .ok (.aload_n 0, 1) := by decide +kernel
theorem dX9_init_50 : decode cX9_init 50 = .ok (.bipush 28, 2) := by decide +kernel
theorem dX9_init_52 : decode cX9_init 52 = .ok (.newarray .byte, 2) := by decide +kernel
theorem dX9_init_54 : decode cX9_init 54 = .ok (.putfield 28, 3) := by decide +kernel
theorem dX9_init_57 : decode cX9_init 57 = .ok (.aload_n 0, 1) := by decide +kernel
theorem dX9_init_58 : decode cX9_init 58 = .ok (.bipush 72, 2) := by decide +kernel
theorem dX9_init_60 : decode cX9_init 60 = .ok (.newarray .long, 2) := by decide +kernel
theorem dX9_init_62 : decode cX9_init 62 = .ok (.putfield 32, 3) := by decide +kernel
theorem dX9_init_65 : decode cX9_init 65 = .ok (.aload_n 0, 1) := by decide +kernel
theorem dX9_init_66 : decode cX9_init 66 = .ok (.bipush 16, 2) := by decide +kernel
theorem dX9_init_68 : decode cX9_init 68 = .ok (.newarray .int, 2) := by decide +kernel
theorem dX9_init_70 : decode cX9_init 70 = .ok (.putfield 36, 3) := by decide +kernel
theorem dX9_init_73 : decode cX9_init 73 = .ok (.aload_n 0, 1) := by decide +kernel
theorem dX9_init_74 : decode cX9_init 74 = .ok (.bipush 16, 2) := by decide +kernel
theorem dX9_init_76 : decode cX9_init 76 = .ok (.newarray .int, 2) := by decide +kernel
theorem dX9_init_78 : decode cX9_init 78 = .ok (.putfield 39, 3) := by decide +kernel
theorem dX9_init_81 : decode cX9_init 81 = .ok (.aload_n 0, 1) := by decide +kernel
theorem dX9_init_82 : decode cX9_init 82 = .ok (.bipush 16, 2) := by decide +kernel
theorem dX9_init_84 : decode cX9_init 84 = .ok (.newarray .int, 2) := by decide +kernel
theorem dX9_init_86 : decode cX9_init 86 = .ok (.putfield 42, 3) := by decide +kernel
theorem dX9_init_89 : decode cX9_init 89 = .ok (.aload_n 0, 1) := by decide +kernel
theorem dX9_init_90 : decode cX9_init 90 = .ok (.iconst 4, 1) := by decide +kernel
theorem dX9_init_91 : decode cX9_init 91 = .ok (.newarray .int, 2) := by decide +kernel
theorem dX9_init_93 : decode cX9_init 93 = .ok (.putfield 45, 3) := by decide +kernel
theorem dX9_init_96 : decode cX9_init 96 = .ok (.aload_n 0, 1) := by decide +kernel
theorem dX9_init_97 : decode cX9_init 97 = .ok (.iconst 4, 1) := by decide +kernel
theorem dX9_init_98 : decode cX9_init 98 = .ok (.newarray .int, 2) := by decide +kernel
theorem dX9_init_100 : decode cX9_init 100 = .ok (.putfield 48, 3) := by decide +kernel
theorem dX9_init_103 : decode cX9_init 103 = .ok (.aload_n 0, 1) := by decide +kernel
theorem dX9_init_104 : decode cX9_init 104 = .ok (.iconst 4, 1) := by decide +kernel
theorem dX9_init_105 : decode cX9_init 105 = .ok (.newarray .int, 2) := by decide +kernel
theorem dX9_init_107 : decode cX9_init 107 = .ok (.putfield 51, 3) := by decide +kernel
theorem dX9_init_110 : decode cX9_init 110 = .ok (.aload_n 0, 1) := by decide +kernel
theorem dX9_init_111 : decode cX9_init 111 = .ok (.iconst 4, 1) := by decide +kernel
theorem dX9_init_112 : decode cX9_init 112 = .ok (.newarray .int, 2) := by decide +kernel
theorem dX9_init_114 : decode cX9_init 114 = .ok (.putfield 54, 3) := by decide +kernel
theorem dX9_init_117 : decode cX9_init 117 = .ok (.aload_n 0, 1) := by decide +kernel
theorem dX9_init_118 : decode cX9_init 118 = .ok (.bipush 6, 2) := by decide +kernel
theorem dX9_init_120 : decode cX9_init 120 = .ok (.newarray .int, 2) := by decide +kernel
theorem dX9_init_122 : decode cX9_init 122 = .ok (.putfield 57, 3) := by decide +kernel
theorem dX9_init_125 : decode cX9_init 125 = .ok (.aload_n 0, 1) := by decide +kernel
theorem dX9_init_126 : decode cX9_init 126 = .ok (.bipush 6, 2) := by decide +kernel
theorem dX9_init_128 : decode cX9_init 128 = .ok (.newarray .int, 2) := by decide +kernel
theorem dX9_init_130 : decode cX9_init 130 = .ok (.putfield 60, 3) := by decide +kernel
theorem dX9_init_133 : decode cX9_init 133 = .ok (.aload_n 0, 1) := by decide +kernel
theorem dX9_init_134 : decode cX9_init 134 = .ok (.bipush 6, 2) := by decide +kernel
theorem dX9_init_136 : decode cX9_init 136 = .ok (.newarray .int, 2) := by decide +kernel
theorem dX9_init_138 : decode cX9_init 138 = .ok (.putfield 63, 3) := by decide +kernel
theorem dX9_init_141 : decode cX9_init 141 = .ok (.return_, 1) := by decide +kernel
theorem dX9_within_0 : decode cX9_within 0 = .ok (.iload_n 0, 1) := by decide +kernel
theorem dX9_within_1 : decode cX9_within 1 = .ok (.iload_n 1, 1) := by decide +kernel
theorem dX9_within_2 : decode cX9_within 2 = .ok (.if_icmp .lt 12, 3) := by decide +kernel
theorem dX9_within_5 : decode cX9_within 5 = .ok (.iload_n 0, 1) := by decide +kernel
theorem dX9_within_6 : decode cX9_within 6 = .ok (.iload_n 2, 1) := by decide +kernel
theorem dX9_within_7 : decode cX9_within 7 = .ok (.if_icmp .gt 7, 3) := by decide +kernel
theorem dX9_within_10 : decode cX9_within 10 = .ok (.iconst 1, 1) := by decide +kernel
theorem dX9_within_11 : decode cX9_within 11 = .ok (.goto 4, 3) := by decide +kernel
theorem dX9_within_14 : decode cX9_within 14 = .ok (.iconst 0, 1) := by decide +kernel
theorem dX9_within_15 : decode cX9_within 15 = .ok (.ireturn, 1) := by decide +kernel
theorem dX9_isIn_0 : decode cX9_isIn 0 = .ok (.iload_n 0, 1) := by decide +kernel
theorem dX9_isIn_1 : decode cX9_isIn 1 = .ok (.iload_n 1, 1) := by decide +kernel
theorem dX9_isIn_2 : decode cX9_isIn 2 = .ok (.ishr, 1) := by decide +kernel
theorem dX9_isIn_3 : decode cX9_isIn 3 = .ok (.iconst 1, 1) := by decide +kernel
theorem dX9_isIn_4 : decode cX9_isIn 4 = .ok (.iand, 1) := by decide +kernel
theorem dX9_isIn_5 : decode cX9_isIn 5 = .ok (.iconst 1, 1) := by decide +kernel
theorem dX9_isIn_6 : decode cX9_isIn 6 = .ok (.if_icmp .ne 7, 3) := by decide +kernel
theorem dX9_isIn_9 : decode cX9_isIn 9 = .ok (.iconst 1, 1) := by decide +kernel
theorem dX9_isIn_10 : decode cX9_isIn 10 = .ok (.goto 4, 3) := by decide +kernel
theorem dX9_isIn_13 : decode cX9_isIn 13 = .ok (.iconst 0, 1) := by decide +kernel
theorem dX9_isIn_14 : decode cX9_isIn 14 = .ok (.ireturn, 1) := by decide +kernel
theorem dX9_size_0 : decode cX9_size 0 = .ok (.iconst 0, 1) := by decide +kernel
theorem dX9_size_1 : decode cX9_size 1 = .ok (.istore_n 1, 1) := by decide +kernel
theorem dX9_size_2 : decode cX9_size 2 = .ok (.iconst 0, 1) := by decide +kernel
theorem dX9_size_3 : decode cX9_size 3 = .ok (.istore_n 2, 1) := by decide +kernel
theorem dX9_size_4 : decode cX9_size 4 = .ok (.iload_n 2, 1) := by decide +kernel
theorem dX9_size_5 : decode cX9_size 5 = .ok (.bipush 16, 2) := by decide +kernel
theorem dX9_size_7 : decode cX9_size 7 = .ok (.if_icmp .ge 17, 3) := by decide +kernel
theorem dX9_size_10 : decode cX9_size 10 = .ok (.iload_n 1, 1) := by decide +kernel
theorem dX9_size_11 : decode cX9_size 11 = .ok (.iload_n 0, 1) := by decide +kernel
theorem dX9_size_12 : decode cX9_size 12 = .ok (.iload_n 2, 1) := by decide +kernel
theorem dX9_size_13 : decode cX9_size 13 = .ok (.ishr, 1) := by decide +kernel
theorem dX9_size_14 : decode cX9_size 14 = .ok (.iconst 1, 1) := by decide +kernel
theorem dX9_size_15 : decode cX9_size 15 = .ok (.iand, 1) := by decide +kernel
theorem dX9_size_16 : decode cX9_size 16 = .ok (.iadd, 1) := by decide +kernel
theorem dX9_size_17 : decode cX9_size 17 = .ok (.istore_n 1, 1) := by decide +kernel
theorem dX9_size_18 : decode cX9_size 18 = .ok (.iinc 2 1, 3) := by decide +kernel
theorem dX9_size_21 : decode cX9_size 21 = .ok (.goto (-17), 3) := by decide +kernel
theorem dX9_size_24 : decode cX9_size 24 = .ok (.iload_n 1, 1) := by decide +kernel
theorem dX9_size_25 : decode cX9_size 25 = .ok (.ireturn, 1) := by decide +kernel
theorem dX9_divisor_0 : decode cX9_divisor 0 = .ok (.iload_n 0, 1) := by decide +kernel
theorem dX9_divisor_1 : decode cX9_divisor 1 = .ok (.istore_n 2, 1) := by decide +kernel
theorem dX9_divisor_2 : decode cX9_divisor 2 = .ok (.iload_n 1, 1) := by decide +kernel
theorem dX9_divisor_3 : decode cX9_divisor 3 = .ok (.istore_n 3, 1) := by decide +kernel
theorem dX9_divisor_4 : decode cX9_divisor 4 = .ok (.iload_n 3, 1) := by decide +kernel
theorem dX9_divisor_5 : decode cX9_divisor 5 = .ok (.ifCond .eq 16, 3) := by decide +kernel
theorem dX9_divisor_8 : decode cX9_divisor 8 = .ok (.iload_n 2, 1) := by decide +kernel
theorem dX9_divisor_9 : decode cX9_divisor 9 = .ok (.iload_n 3, 1) := by decide +kernel
theorem dX9_divisor_10 : decode cX9_divisor 10 = .ok (.irem, 1) := by decide +kernel
theorem dX9_divisor_11 : decode cX9_divisor 11 = .ok (.istore 4, 2) := by decide +kernel
theorem dX9_divisor_13 : decode cX9_divisor 13 = .ok (.iload_n 3, 1) := by decide +kernel
theorem dX9_divisor_14 : decode cX9_divisor 14 = .ok (.istore_n 2, 1) := by decide +kernel
theorem dX9_divisor_15 : decode cX9_divisor 15 = .ok (.iload 4, 2) := by decide +kernel
theorem dX9_divisor_17 : decode cX9_divisor 17 = .ok (.istore_n 3, 1) := by decide +kernel
theorem dX9_divisor_18 : decode cX9_divisor 18 = .ok (.goto (-14), 3) := by decide +kernel
theorem dX9_divisor_21 : decode cX9_divisor 21 = .ok (.iload_n 2, 1) := by decide +kernel
theorem dX9_divisor_22 : decode cX9_divisor 22 = .ok (.ireturn, 1) := by decide +kernel
theorem dX9_letter_0 : decode cX9_letter 0 = .ok (.iload_n 1, 1) := by decide +kernel
theorem dX9_letter_1 : decode cX9_letter 1 = .ok (.bipush 32, 2) := by decide +kernel
theorem dX9_letter_3 : decode cX9_letter 3 = .ok (.bipush 126, 2) := by decide +kernel
theorem dX9_letter_5 : decode cX9_letter 5 = .ok (.invokestatic 66, 3) := by decide +kernel
theorem dX9_letter_8 : decode cX9_letter 8 = .ok (.ifCond .ne 6, 3) := by decide +kernel
theorem dX9_letter_11 : decode cX9_letter 11 = .ok (.bipush (-102), 2) := by decide +kernel
theorem dX9_letter_13 : decode cX9_letter 13 = .ok (.ireturn, 1) := by decide +kernel
theorem dX9_letter_14 : decode cX9_letter 14 = .ok (.aload_n 0, 1) := by decide +kernel
theorem dX9_letter_15 : decode cX9_letter 15 = .ok (.getfield 70, 3) := by decide +kernel
theorem dX9_letter_18 : decode cX9_letter 18 = .ok (.bipush 28, 2) := by decide +kernel
theorem dX9_letter_20 : decode cX9_letter 20 = .ok (.if_icmp .ne 6, 3) := by decide +kernel
theorem dX9_letter_23 : decode cX9_letter 23 = .ok (.bipush (-104), 2) := by decide +kernel
theorem dX9_letter_25 : decode cX9_letter 25 = .ok (.ireturn, 1) := by decide +kernel
theorem dX9_letter_26 : decode cX9_letter 26 = .ok (.aload_n 0, 1) := by decide +kernel
theorem dX9_letter_27 : decode cX9_letter 27 = .ok (.getfield 28, 3) := by decide +kernel
theorem dX9_letter_30 : decode cX9_letter 30 = .ok (.aload_n 0, 1) := by decide +kernel
theorem dX9_letter_31 : decode cX9_letter 31 = .ok (.getfield 70, 3) := by decide +kernel
theorem dX9_letter_34 : decode cX9_letter 34 = .ok (.iload_n 1, 1) := by decide +kernel
theorem dX9_letter_35 : decode cX9_letter 35 = .ok (.i2b, 1) := by decide +kernel
theorem dX9_letter_36 : decode cX9_letter 36 = .ok (.bastore, 1) := by decide +kernel
theorem dX9_letter_37 : decode cX9_letter 37 = .ok (.aload_n 0, 1) := by decide +kernel
theorem dX9_letter_38 : decode cX9_letter 38 = .ok (.dup, 1) := by decide +kernel
theorem dX9_letter_39 : decode cX9_letter 39 = .ok (.getfield 70, 3) := by decide +kernel
theorem dX9_letter_42 : decode cX9_letter 42 = .ok (.iconst 1, 1) := by decide +kernel
theorem dX9_letter_43 : decode cX9_letter 43 = .ok (.iadd, 1) := by decide +kernel
theorem dX9_letter_44 : decode cX9_letter 44 = .ok (.putfield 70, 3) := by decide +kernel
theorem dX9_letter_47 : decode cX9_letter 47 = .ok (.aload_n 0, 1) := by decide +kernel
theorem dX9_letter_48 : decode cX9_letter 48 = .ok (.getfield 70, 3) := by decide +kernel
theorem dX9_letter_51 : decode cX9_letter 51 = .ok (.ireturn, 1) := by decide +kernel
theorem dX9_blank_0 : decode cX9_blank 0 = .ok (.aload_n 0, 1) := by decide +kernel
theorem dX9_blank_1 : decode cX9_blank 1 = .ok (.getfield 70, 3) := by decide +kernel
theorem dX9_blank_4 : decode cX9_blank 4 = .ok (.istore_n 1, 1) := by decide +kernel
theorem dX9_blank_5 : decode cX9_blank 5 = .ok (.aload_n 0, 1) := by decide +kernel
theorem dX9_blank_6 : decode cX9_blank 6 = .ok (.iconst 0, 1) := by decide +kernel
theorem dX9_blank_7 : decode cX9_blank 7 = .ok (.putfield 70, 3) := by decide +kernel
theorem dX9_blank_10 : decode cX9_blank 10 = .ok (.iload_n 1, 1) := by decide +kernel
theorem dX9_blank_11 : decode cX9_blank 11 = .ok (.ireturn, 1) := by decide +kernel
theorem dX9_kindBy_0 : decode cX9_kindBy 0 = .ok (.iload_n 0, 1) := by decide +kernel
theorem dX9_kindBy_1 : decode cX9_kindBy 1 = .ok (.tableswitch 85 98 112 #[83, 85, 85, 81, 85, 85, 85, 85, 85, 85, 85, 77, 85, 79, 75], 75) := by decide +kernel
theorem dX9_kindBy_76 : decode cX9_kindBy 76 = .ok (.iconst 0, 1) := by decide +kernel
theorem dX9_kindBy_77 : decode cX9_kindBy 77 = .ok (.ireturn, 1) := by decide +kernel
theorem dX9_kindBy_78 : decode cX9_kindBy 78 = .ok (.iconst 1, 1) := by decide +kernel
theorem dX9_kindBy_79 : decode cX9_kindBy 79 = .ok (.ireturn, 1) := by decide +kernel
theorem dX9_kindBy_80 : decode cX9_kindBy 80 = .ok (.iconst 2, 1) := by decide +kernel
theorem dX9_kindBy_81 : decode cX9_kindBy 81 = .ok (.ireturn, 1) := by decide +kernel
theorem dX9_kindBy_82 : decode cX9_kindBy 82 = .ok (.iconst 3, 1) := by decide +kernel
theorem dX9_kindBy_83 : decode cX9_kindBy 83 = .ok (.ireturn, 1) := by decide +kernel
theorem dX9_kindBy_84 : decode cX9_kindBy 84 = .ok (.iconst 4, 1) := by decide +kernel
theorem dX9_kindBy_85 : decode cX9_kindBy 85 = .ok (.ireturn, 1) := by decide +kernel
theorem dX9_kindBy_86 : decode cX9_kindBy 86 = .ok (.iconst (-1), 1) := by decide +kernel
theorem dX9_kindBy_87 : decode cX9_kindBy 87 = .ok (.ireturn, 1) := by decide +kernel
theorem dX9_at_0 : decode cX9_at 0 = .ok (.iload_n 1, 1) := by decide +kernel
theorem dX9_at_1 : decode cX9_at 1 = .ok (.aload_n 0, 1) := by decide +kernel
theorem dX9_at_2 : decode cX9_at 2 = .ok (.getfield 70, 3) := by decide +kernel
theorem dX9_at_5 : decode cX9_at 5 = .ok (.if_icmp .ge 12, 3) := by decide +kernel
theorem dX9_at_8 : decode cX9_at 8 = .ok (.aload_n 0, 1) := by decide +kernel
theorem dX9_at_9 : decode cX9_at 9 = .ok (.getfield 28, 3) := by decide +kernel
theorem dX9_at_12 : decode cX9_at 12 = .ok (.iload_n 1, 1) := by decide +kernel
theorem dX9_at_13 : decode cX9_at 13 = .ok (.baload, 1) := by decide +kernel
theorem dX9_at_14 : decode cX9_at 14 = .ok (.goto 4, 3) := by decide +kernel
theorem dX9_at_17 : decode cX9_at 17 = .ok (.iconst 0, 1) := by decide +kernel
theorem dX9_at_18 : decode cX9_at 18 = .ok (.ireturn, 1) := by decide +kernel
theorem dX9_readPlayer_0 : decode cX9_readPlayer 0 = .ok (.aload_n 0, 1) := by decide +kernel
theorem dX9_readPlayer_1 : decode cX9_readPlayer 1 = .ok (.iload_n 1, 1) := by decide +kernel
theorem dX9_readPlayer_2 : decode cX9_readPlayer 2 = .ok (.invokevirtual 74, 3) := by decide +kernel
theorem dX9_readPlayer_5 : decode cX9_readPlayer 5 = .ok (.invokestatic 78, 3) := by decide +kernel
theorem dX9_readPlayer_8 : decode cX9_readPlayer 8 = .ok (.iconst (-1), 1) := by decide +kernel
theorem dX9_readPlayer_9 : decode cX9_readPlayer 9 = .ok (.if_icmp .ne 5, 3) := by decide +kernel
theorem dX9_readPlayer_12 : decode cX9_readPlayer 12 = .ok (.iload_n 1, 1) := by decide +kernel
theorem dX9_readPlayer_13 : decode cX9_readPlayer 13 = .ok (.ireturn, 1) := by decide +kernel
theorem dX9_readPlayer_14 : decode cX9_readPlayer 14 = .ok (.iload_n 1, 1) := by decide +kernel
theorem dX9_readPlayer_15 : decode cX9_readPlayer 15 = .ok (.iconst 1, 1) := by decide +kernel
theorem dX9_readPlayer_16 : decode cX9_readPlayer 16 = .ok (.iadd, 1) := by decide +kernel
theorem dX9_readPlayer_17 : decode cX9_readPlayer 17 = .ok (.istore_n 2, 1) := by decide +kernel
theorem dX9_readPlayer_18 : decode cX9_readPlayer 18 = .ok (.iload_n 2, 1) := by decide +kernel
theorem dX9_readPlayer_19 : decode cX9_readPlayer 19 = .ok (.iload_n 1, 1) := by decide +kernel
theorem dX9_readPlayer_20 : decode cX9_readPlayer 20 = .ok (.aload_n 0, 1) := by decide +kernel
theorem dX9_readPlayer_21 : decode cX9_readPlayer 21 = .ok (.getfield 81, 3) := by decide +kernel
theorem dX9_readPlayer_24 : decode cX9_readPlayer 24 = .ok (.iadd, 1) := by decide +kernel
theorem dX9_readPlayer_25 : decode cX9_readPlayer 25 = .ok (.if_icmp .gt 29, 3) := by decide +kernel
theorem dX9_readPlayer_28 : decode cX9_readPlayer 28 = .ok (.aload_n 0, 1) := by decide +kernel
theorem dX9_readPlayer_29 : decode cX9_readPlayer 29 = .ok (.iload_n 2, 1) := by decide +kernel
theorem dX9_readPlayer_30 : decode cX9_readPlayer 30 = .ok (.invokevirtual 74, 3) := by decide +kernel
theorem dX9_readPlayer_33 : decode cX9_readPlayer 33 = .ok (.bipush 104, 2) := by decide +kernel
theorem dX9_readPlayer_35 : decode cX9_readPlayer 35 = .ok (.if_icmp .eq 13, 3) := by decide +kernel
theorem dX9_readPlayer_38 : decode cX9_readPlayer 38 = .ok (.aload_n 0, 1) := by decide +kernel
theorem dX9_readPlayer_39 : decode cX9_readPlayer 39 = .ok (.iload_n 2, 1) := by decide +kernel
theorem dX9_readPlayer_40 : decode cX9_readPlayer 40 = .ok (.invokevirtual 74, 3) := by decide +kernel
theorem dX9_readPlayer_43 : decode cX9_readPlayer 43 = .ok (.bipush 116, 2) := by decide +kernel
theorem dX9_readPlayer_45 : decode cX9_readPlayer 45 = .ok (.if_icmp .ne 9, 3) := by decide +kernel
theorem dX9_readPlayer_48 : decode cX9_readPlayer 48 = .ok (.iinc 2 1, 3) := by decide +kernel
theorem dX9_readPlayer_51 : decode cX9_readPlayer 51 = .ok (.goto (-33), 3) := by decide +kernel
theorem dX9_readPlayer_54 : decode cX9_readPlayer 54 = .ok (.iload_n 2, 1) := by decide +kernel
theorem dX9_readPlayer_55 : decode cX9_readPlayer 55 = .ok (.ireturn, 1) := by decide +kernel
theorem dX9_read_0 : decode cX9_read 0 = .ok (.aload_n 0, 1) := by decide +kernel
theorem dX9_read_1 : decode cX9_read 1 = .ok (.iconst 0, 1) := by decide +kernel
theorem dX9_read_2 : decode cX9_read 2 = .ok (.putfield 84, 3) := by decide +kernel
theorem dX9_read_5 : decode cX9_read 5 = .ok (.aload_n 0, 1) := by decide +kernel
theorem dX9_read_6 : decode cX9_read 6 = .ok (.iconst 0, 1) := by decide +kernel
theorem dX9_read_7 : decode cX9_read 7 = .ok (.putfield 88, 3) := by decide +kernel
theorem dX9_read_10 : decode cX9_read 10 = .ok (.aload_n 0, 1) := by decide +kernel
theorem dX9_read_11 : decode cX9_read 11 = .ok (.aload_n 0, 1) := by decide +kernel
theorem dX9_read_12 : decode cX9_read 12 = .ok (.iconst 0, 1) := by decide +kernel
theorem dX9_read_13 : decode cX9_read 13 = .ok (.invokevirtual 74, 3) := by decide +kernel
theorem dX9_read_16 : decode cX9_read 16 = .ok (.bipush 48, 2) := by decide +kernel
theorem dX9_read_18 : decode cX9_read 18 = .ok (.isub, 1) := by decide +kernel
theorem dX9_read_19 : decode cX9_read 19 = .ok (.putfield 81, 3) := by decide +kernel
theorem dX9_read_22 : decode cX9_read 22 = .ok (.aload_n 0, 1) := by decide +kernel
theorem dX9_read_23 : decode cX9_read 23 = .ok (.getfield 81, 3) := by decide +kernel
theorem dX9_read_26 : decode cX9_read 26 = .ok (.iconst 2, 1) := by decide +kernel
theorem dX9_read_27 : decode cX9_read 27 = .ok (.iconst 4, 1) := by decide +kernel
theorem dX9_read_28 : decode cX9_read 28 = .ok (.invokestatic 66, 3) := by decide +kernel
theorem dX9_read_31 : decode cX9_read 31 = .ok (.ifCond .ne 5, 3) := by decide +kernel
theorem dX9_read_34 : decode cX9_read 34 = .ok (.iconst 0, 1) := by decide +kernel
theorem dX9_read_35 : decode cX9_read 35 = .ok (.ireturn, 1) := by decide +kernel
theorem dX9_read_36 : decode cX9_read 36 = .ok (.aload_n 0, 1) := by decide +kernel
theorem dX9_read_37 : decode cX9_read 37 = .ok (.iconst 1, 1) := by decide +kernel
theorem dX9_read_38 : decode cX9_read 38 = .ok (.invokevirtual 74, 3) := by decide +kernel
theorem dX9_read_41 : decode cX9_read 41 = .ok (.bipush 59, 2) := by decide +kernel
theorem dX9_read_43 : decode cX9_read 43 = .ok (.if_icmp .eq 5, 3) := by decide +kernel
theorem dX9_read_46 : decode cX9_read 46 = .ok (.iconst 1, 1) := by decide +kernel
theorem dX9_read_47 : decode cX9_read 47 = .ok (.ireturn, 1) := by decide +kernel
theorem dX9_read_48 : decode cX9_read 48 = .ok (.iconst 2, 1) := by decide +kernel
theorem dX9_read_49 : decode cX9_read 49 = .ok (.istore_n 1, 1) := by decide +kernel
theorem dX9_read_50 : decode cX9_read 50 = .ok (.aload_n 0, 1) := by decide +kernel
theorem dX9_read_51 : decode cX9_read 51 = .ok (.getfield 88, 3) := by decide +kernel
theorem dX9_read_54 : decode cX9_read 54 = .ok (.iconst 4, 1) := by decide +kernel
theorem dX9_read_55 : decode cX9_read 55 = .ok (.if_icmp .ge 86, 3) := by decide +kernel
theorem dX9_read_58 : decode cX9_read 58 = .ok (.aload_n 0, 1) := by decide +kernel
theorem dX9_read_59 : decode cX9_read 59 = .ok (.iload_n 1, 1) := by decide +kernel
theorem dX9_read_60 : decode cX9_read 60 = .ok (.invokevirtual 91, 3) := by decide +kernel
theorem dX9_read_63 : decode cX9_read 63 = .ok (.istore_n 2, 1) := by decide +kernel
theorem dX9_read_64 : decode cX9_read 64 = .ok (.iload_n 2, 1) := by decide +kernel
theorem dX9_read_65 : decode cX9_read 65 = .ok (.iload_n 1, 1) := by decide +kernel
theorem dX9_read_66 : decode cX9_read 66 = .ok (.iconst 1, 1) := by decide +kernel
theorem dX9_read_67 : decode cX9_read 67 = .ok (.iadd, 1) := by decide +kernel
theorem dX9_read_68 : decode cX9_read 68 = .ok (.aload_n 0, 1) := by decide +kernel
theorem dX9_read_69 : decode cX9_read 69 = .ok (.getfield 81, 3) := by decide +kernel
theorem dX9_read_72 : decode cX9_read 72 = .ok (.iadd, 1) := by decide +kernel
theorem dX9_read_73 : decode cX9_read 73 = .ok (.if_icmp .eq 5, 3) := by decide +kernel
theorem dX9_read_76 : decode cX9_read 76 = .ok (.iload_n 2, 1) := by decide +kernel
theorem dX9_read_77 : decode cX9_read 77 = .ok (.ireturn, 1) := by decide +kernel
theorem dX9_read_78 : decode cX9_read 78 = .ok (.aload_n 0, 1) := by decide +kernel
theorem dX9_read_79 : decode cX9_read 79 = .ok (.dup, 1) := by decide +kernel
theorem dX9_read_80 : decode cX9_read 80 = .ok (.getfield 88, 3) := by decide +kernel
theorem dX9_read_83 : decode cX9_read 83 = .ok (.iconst 1, 1) := by decide +kernel
theorem dX9_read_84 : decode cX9_read 84 = .ok (.iadd, 1) := by decide +kernel
theorem dX9_read_85 : decode cX9_read 85 = .ok (.putfield 88, 3) := by decide +kernel
theorem dX9_read_88 : decode cX9_read 88 = .ok (.iload_n 2, 1) := by decide +kernel
theorem dX9_read_89 : decode cX9_read 89 = .ok (.istore_n 1, 1) := by decide +kernel
theorem dX9_read_90 : decode cX9_read 90 = .ok (.aload_n 0, 1) := by decide +kernel
theorem dX9_read_91 : decode cX9_read 91 = .ok (.iload_n 1, 1) := by decide +kernel
theorem dX9_read_92 : decode cX9_read 92 = .ok (.aload_n 0, 1) := by decide +kernel
theorem dX9_read_93 : decode cX9_read 93 = .ok (.getfield 70, 3) := by decide +kernel
theorem dX9_read_96 : decode cX9_read 96 = .ok (.if_icmp .ne 15, 3) := by decide +kernel
theorem dX9_read_99 : decode cX9_read 99 = .ok (.aload_n 0, 1) := by decide +kernel
theorem dX9_read_100 : decode cX9_read 100 = .ok (.getfield 88, 3) := by decide +kernel
theorem dX9_read_103 : decode cX9_read 103 = .ok (.iconst 1, 1) := by decide +kernel
theorem dX9_read_104 : decode cX9_read 104 = .ok (.if_icmp .le 7, 3) := by decide +kernel
theorem dX9_read_107 : decode cX9_read 107 = .ok (.iconst 1, 1) := by decide +kernel
theorem dX9_read_108 : decode cX9_read 108 = .ok (.goto 4, 3) := by decide +kernel
theorem dX9_read_111 : decode cX9_read 111 = .ok (.iconst 0, 1) := by decide +kernel
theorem dX9_read_112 : decode cX9_read 112 = .ok (.putfield 84, 3) := by decide +kernel
theorem dX9_read_115 : decode cX9_read 115 = .ok (.aload_n 0, 1) := by decide +kernel
theorem dX9_read_116 : decode cX9_read 116 = .ok (.getfield 88, 3) := by decide +kernel
theorem dX9_read_119 : decode cX9_read 119 = .ok (.iconst 4, 1) := by decide +kernel
theorem dX9_read_120 : decode cX9_read 120 = .ok (.if_icmp .eq 13, 3) := by decide +kernel
theorem dX9_read_123 : decode cX9_read 123 = .ok (.aload_n 0, 1) := by decide +kernel
theorem dX9_read_124 : decode cX9_read 124 = .ok (.iload_n 1, 1) := by decide +kernel
theorem dX9_read_125 : decode cX9_read 125 = .ok (.invokevirtual 74, 3) := by decide +kernel
theorem dX9_read_128 : decode cX9_read 128 = .ok (.bipush 44, 2) := by decide +kernel
theorem dX9_read_130 : decode cX9_read 130 = .ok (.if_icmp .eq 5, 3) := by decide +kernel
theorem dX9_read_133 : decode cX9_read 133 = .ok (.iload_n 1, 1) := by decide +kernel
theorem dX9_read_134 : decode cX9_read 134 = .ok (.ireturn, 1) := by decide +kernel
theorem dX9_read_135 : decode cX9_read 135 = .ok (.iinc 1 1, 3) := by decide +kernel
theorem dX9_read_138 : decode cX9_read 138 = .ok (.goto (-88), 3) := by decide +kernel
theorem dX9_read_141 : decode cX9_read 141 = .ok (.iload_n 1, 1) := by decide +kernel
theorem dX9_read_142 : decode cX9_read 142 = .ok (.ireturn, 1) := by decide +kernel
theorem dX9_fault_0 : decode cX9_fault 0 = .ok (.aload_n 0, 1) := by decide +kernel
theorem dX9_fault_1 : decode cX9_fault 1 = .ok (.invokevirtual 94, 3) := by decide +kernel
theorem dX9_fault_4 : decode cX9_fault 4 = .ok (.ireturn, 1) := by decide +kernel
theorem dX9_rowAt_0 : decode cX9_rowAt 0 = .ok (.iconst 0, 1) := by decide +kernel
theorem dX9_rowAt_1 : decode cX9_rowAt 1 = .ok (.istore_n 2, 1) := by decide +kernel
theorem dX9_rowAt_2 : decode cX9_rowAt 2 = .ok (.iconst 0, 1) := by decide +kernel
theorem dX9_rowAt_3 : decode cX9_rowAt 3 = .ok (.istore_n 3, 1) := by decide +kernel
theorem dX9_rowAt_4 : decode cX9_rowAt 4 = .ok (.iload_n 3, 1) := by decide +kernel
theorem dX9_rowAt_5 : decode cX9_rowAt 5 = .ok (.aload_n 0, 1) := by decide +kernel
theorem dX9_rowAt_6 : decode cX9_rowAt 6 = .ok (.getfield 98, 3) := by decide +kernel
theorem dX9_rowAt_9 : decode cX9_rowAt 9 = .ok (.if_icmp .ge 32, 3) := by decide +kernel
theorem dX9_rowAt_12 : decode cX9_rowAt 12 = .ok (.iconst 2, 1) := by decide +kernel
theorem dX9_rowAt_13 : decode cX9_rowAt 13 = .ok (.iload_n 2, 1) := by decide +kernel
theorem dX9_rowAt_14 : decode cX9_rowAt 14 = .ok (.imul, 1) := by decide +kernel
theorem dX9_rowAt_15 : decode cX9_rowAt 15 = .ok (.aload_n 0, 1) := by decide +kernel
theorem dX9_rowAt_16 : decode cX9_rowAt 16 = .ok (.getfield 28, 3) := by decide +kernel
theorem dX9_rowAt_19 : decode cX9_rowAt 19 = .ok (.iload_n 1, 1) := by decide +kernel
theorem dX9_rowAt_20 : decode cX9_rowAt 20 = .ok (.iload_n 3, 1) := by decide +kernel
theorem dX9_rowAt_21 : decode cX9_rowAt 21 = .ok (.iadd, 1) := by decide +kernel
theorem dX9_rowAt_22 : decode cX9_rowAt 22 = .ok (.baload, 1) := by decide +kernel
theorem dX9_rowAt_23 : decode cX9_rowAt 23 = .ok (.bipush 116, 2) := by decide +kernel
theorem dX9_rowAt_25 : decode cX9_rowAt 25 = .ok (.if_icmp .ne 7, 3) := by decide +kernel
theorem dX9_rowAt_28 : decode cX9_rowAt 28 = .ok (.iconst 1, 1) := by decide +kernel
theorem dX9_rowAt_29 : decode cX9_rowAt 29 = .ok (.goto 4, 3) := by decide +kernel
theorem dX9_rowAt_32 : decode cX9_rowAt 32 = .ok (.iconst 0, 1) := by decide +kernel
theorem dX9_rowAt_33 : decode cX9_rowAt 33 = .ok (.iadd, 1) := by decide +kernel
theorem dX9_rowAt_34 : decode cX9_rowAt 34 = .ok (.istore_n 2, 1) := by decide +kernel
theorem dX9_rowAt_35 : decode cX9_rowAt 35 = .ok (.iinc 3 1, 3) := by decide +kernel
theorem dX9_rowAt_38 : decode cX9_rowAt 38 = .ok (.goto (-34), 3) := by decide +kernel
theorem dX9_rowAt_41 : decode cX9_rowAt 41 = .ok (.iload_n 2, 1) := by decide +kernel
theorem dX9_rowAt_42 : decode cX9_rowAt 42 = .ok (.ireturn, 1) := by decide +kernel
theorem dX9_table_0 : decode cX9_table 0 = .ok (.aload_n 0, 1) := by decide +kernel
theorem dX9_table_1 : decode cX9_table 1 = .ok (.invokevirtual 94, 3) := by decide +kernel
theorem dX9_table_4 : decode cX9_table 4 = .ok (.pop, 1) := by decide +kernel
theorem dX9_table_5 : decode cX9_table 5 = .ok (.aload_n 0, 1) := by decide +kernel
theorem dX9_table_6 : decode cX9_table 6 = .ok (.getfield 84, 3) := by decide +kernel
theorem dX9_table_9 : decode cX9_table 9 = .ok (.ifCond .ne 6, 3) := by decide +kernel
theorem dX9_table_12 : decode cX9_table 12 = .ok (.bipush (-103), 2) := by decide +kernel
theorem dX9_table_14 : decode cX9_table 14 = .ok (.ireturn, 1) := by decide +kernel
theorem dX9_table_15 : decode cX9_table 15 = .ok (.aload_n 0, 1) := by decide +kernel
theorem dX9_table_16 : decode cX9_table 16 = .ok (.aload_n 0, 1) := by decide +kernel
theorem dX9_table_17 : decode cX9_table 17 = .ok (.getfield 81, 3) := by decide +kernel
theorem dX9_table_20 : decode cX9_table 20 = .ok (.putfield 98, 3) := by decide +kernel
theorem dX9_table_23 : decode cX9_table 23 = .ok (.aload_n 0, 1) := by decide +kernel
theorem dX9_table_24 : decode cX9_table 24 = .ok (.aload_n 0, 1) := by decide +kernel
theorem dX9_table_25 : decode cX9_table 25 = .ok (.getfield 88, 3) := by decide +kernel
theorem dX9_table_28 : decode cX9_table 28 = .ok (.putfield 101, 3) := by decide +kernel
theorem dX9_table_31 : decode cX9_table 31 = .ok (.iconst 0, 1) := by decide +kernel
theorem dX9_table_32 : decode cX9_table 32 = .ok (.istore_n 1, 1) := by decide +kernel
theorem dX9_table_33 : decode cX9_table 33 = .ok (.iload_n 1, 1) := by decide +kernel
theorem dX9_table_34 : decode cX9_table 34 = .ok (.aload_n 0, 1) := by decide +kernel
theorem dX9_table_35 : decode cX9_table 35 = .ok (.getfield 101, 3) := by decide +kernel
theorem dX9_table_38 : decode cX9_table 38 = .ok (.if_icmp .ge 55, 3) := by decide +kernel
theorem dX9_table_41 : decode cX9_table 41 = .ok (.iconst 2, 1) := by decide +kernel
theorem dX9_table_42 : decode cX9_table 42 = .ok (.aload_n 0, 1) := by decide +kernel
theorem dX9_table_43 : decode cX9_table 43 = .ok (.getfield 98, 3) := by decide +kernel
theorem dX9_table_46 : decode cX9_table 46 = .ok (.iconst 2, 1) := by decide +kernel
theorem dX9_table_47 : decode cX9_table 47 = .ok (.iadd, 1) := by decide +kernel
theorem dX9_table_48 : decode cX9_table 48 = .ok (.iload_n 1, 1) := by decide +kernel
theorem dX9_table_49 : decode cX9_table 49 = .ok (.imul, 1) := by decide +kernel
theorem dX9_table_50 : decode cX9_table 50 = .ok (.iadd, 1) := by decide +kernel
theorem dX9_table_51 : decode cX9_table 51 = .ok (.istore_n 2, 1) := by decide +kernel
theorem dX9_table_52 : decode cX9_table 52 = .ok (.aload_n 0, 1) := by decide +kernel
theorem dX9_table_53 : decode cX9_table 53 = .ok (.getfield 7, 3) := by decide +kernel
theorem dX9_table_56 : decode cX9_table 56 = .ok (.iload_n 1, 1) := by decide +kernel
theorem dX9_table_57 : decode cX9_table 57 = .ok (.aload_n 0, 1) := by decide +kernel
theorem dX9_table_58 : decode cX9_table 58 = .ok (.getfield 28, 3) := by decide +kernel
theorem dX9_table_61 : decode cX9_table 61 = .ok (.iload_n 2, 1) := by decide +kernel
theorem dX9_table_62 : decode cX9_table 62 = .ok (.baload, 1) := by decide +kernel
theorem dX9_table_63 : decode cX9_table 63 = .ok (.invokestatic 78, 3) := by decide +kernel
theorem dX9_table_66 : decode cX9_table 66 = .ok (.iastore, 1) := by decide +kernel
theorem dX9_table_67 : decode cX9_table 67 = .ok (.aload_n 0, 1) := by decide +kernel
theorem dX9_table_68 : decode cX9_table 68 = .ok (.getfield 13, 3) := by decide +kernel
theorem dX9_table_71 : decode cX9_table 71 = .ok (.iload_n 1, 1) := by decide +kernel
theorem dX9_table_72 : decode cX9_table 72 = .ok (.aload_n 0, 1) := by decide +kernel
theorem dX9_table_73 : decode cX9_table 73 = .ok (.iload_n 2, 1) := by decide +kernel
theorem dX9_table_74 : decode cX9_table 74 = .ok (.iconst 1, 1) := by decide +kernel
theorem dX9_table_75 : decode cX9_table 75 = .ok (.iadd, 1) := by decide +kernel
theorem dX9_table_76 : decode cX9_table 76 = .ok (.invokevirtual 104, 3) := by decide +kernel
theorem dX9_table_79 : decode cX9_table 79 = .ok (.iastore, 1) := by decide +kernel
theorem dX9_table_80 : decode cX9_table 80 = .ok (.aload_n 0, 1) := by decide +kernel
theorem dX9_table_81 : decode cX9_table 81 = .ok (.getfield 16, 3) := by decide +kernel
theorem dX9_table_84 : decode cX9_table 84 = .ok (.iload_n 1, 1) := by decide +kernel
theorem dX9_table_85 : decode cX9_table 85 = .ok (.iconst 0, 1) := by decide +kernel
theorem dX9_table_86 : decode cX9_table 86 = .ok (.iastore, 1) := by decide +kernel
theorem dX9_table_87 : decode cX9_table 87 = .ok (.iinc 1 1, 3) := by decide +kernel
theorem dX9_table_90 : decode cX9_table 90 = .ok (.goto (-57), 3) := by decide +kernel
theorem dX9_table_93 : decode cX9_table 93 = .ok (.aload_n 0, 1) := by decide +kernel
theorem dX9_table_94 : decode cX9_table 94 = .ok (.iconst 0, 1) := by decide +kernel
theorem dX9_table_95 : decode cX9_table 95 = .ok (.putfield 107, 3) := by decide +kernel
theorem dX9_table_98 : decode cX9_table 98 = .ok (.aload_n 0, 1) := by decide +kernel
theorem dX9_table_99 : decode cX9_table 99 = .ok (.iconst 0, 1) := by decide +kernel
theorem dX9_table_100 : decode cX9_table 100 = .ok (.putfield 110, 3) := by decide +kernel
theorem dX9_table_103 : decode cX9_table 103 = .ok (.aload_n 0, 1) := by decide +kernel
theorem dX9_table_104 : decode cX9_table 104 = .ok (.iconst 0, 1) := by decide +kernel
theorem dX9_table_105 : decode cX9_table 105 = .ok (.putfield 113, 3) := by decide +kernel
theorem dX9_table_108 : decode cX9_table 108 = .ok (.aload_n 0, 1) := by decide +kernel
theorem dX9_table_109 : decode cX9_table 109 = .ok (.dup, 1) := by decide +kernel
theorem dX9_table_110 : decode cX9_table 110 = .ok (.getfield 116, 3) := by decide +kernel
theorem dX9_table_113 : decode cX9_table 113 = .ok (.iconst 1, 1) := by decide +kernel
theorem dX9_table_114 : decode cX9_table 114 = .ok (.iadd, 1) := by decide +kernel
theorem dX9_table_115 : decode cX9_table 115 = .ok (.putfield 116, 3) := by decide +kernel
theorem dX9_table_118 : decode cX9_table 118 = .ok (.aload_n 0, 1) := by decide +kernel
theorem dX9_table_119 : decode cX9_table 119 = .ok (.iconst 0, 1) := by decide +kernel
theorem dX9_table_120 : decode cX9_table 120 = .ok (.putfield 119, 3) := by decide +kernel
theorem dX9_table_123 : decode cX9_table 123 = .ok (.aload_n 0, 1) := by decide +kernel
theorem dX9_table_124 : decode cX9_table 124 = .ok (.iconst 0, 1) := by decide +kernel
theorem dX9_table_125 : decode cX9_table 125 = .ok (.putfield 70, 3) := by decide +kernel
theorem dX9_table_128 : decode cX9_table 128 = .ok (.aload_n 0, 1) := by decide +kernel
theorem dX9_table_129 : decode cX9_table 129 = .ok (.getfield 101, 3) := by decide +kernel
theorem dX9_table_132 : decode cX9_table 132 = .ok (.ireturn, 1) := by decide +kernel
theorem dX9_isPlayer_0 : decode cX9_isPlayer 0 = .ok (.iload_n 1, 1) := by decide +kernel
theorem dX9_isPlayer_1 : decode cX9_isPlayer 1 = .ok (.iconst 0, 1) := by decide +kernel
theorem dX9_isPlayer_2 : decode cX9_isPlayer 2 = .ok (.aload_n 0, 1) := by decide +kernel
theorem dX9_isPlayer_3 : decode cX9_isPlayer 3 = .ok (.getfield 101, 3) := by decide +kernel
theorem dX9_isPlayer_6 : decode cX9_isPlayer 6 = .ok (.iconst 1, 1) := by decide +kernel
theorem dX9_isPlayer_7 : decode cX9_isPlayer 7 = .ok (.isub, 1) := by decide +kernel
theorem dX9_isPlayer_8 : decode cX9_isPlayer 8 = .ok (.invokestatic 66, 3) := by decide +kernel
theorem dX9_isPlayer_11 : decode cX9_isPlayer 11 = .ok (.ireturn, 1) := by decide +kernel
theorem dX9_rows_0 : decode cX9_rows 0 = .ok (.iconst 1, 1) := by decide +kernel
theorem dX9_rows_1 : decode cX9_rows 1 = .ok (.aload_n 0, 1) := by decide +kernel
theorem dX9_rows_2 : decode cX9_rows 2 = .ok (.getfield 98, 3) := by decide +kernel
theorem dX9_rows_5 : decode cX9_rows 5 = .ok (.ishl, 1) := by decide +kernel
theorem dX9_rows_6 : decode cX9_rows 6 = .ok (.ireturn, 1) := by decide +kernel
theorem dX9_isRow_0 : decode cX9_isRow 0 = .ok (.aload_n 0, 1) := by decide +kernel
theorem dX9_isRow_1 : decode cX9_isRow 1 = .ok (.getfield 101, 3) := by decide +kernel
theorem dX9_isRow_4 : decode cX9_isRow 4 = .ok (.ifCond .le 21, 3) := by decide +kernel
theorem dX9_isRow_7 : decode cX9_isRow 7 = .ok (.iload_n 1, 1) := by decide +kernel
theorem dX9_isRow_8 : decode cX9_isRow 8 = .ok (.iconst 0, 1) := by decide +kernel
theorem dX9_isRow_9 : decode cX9_isRow 9 = .ok (.aload_n 0, 1) := by decide +kernel
theorem dX9_isRow_10 : decode cX9_isRow 10 = .ok (.invokevirtual 122, 3) := by decide +kernel
theorem dX9_isRow_13 : decode cX9_isRow 13 = .ok (.iconst 1, 1) := by decide +kernel
theorem dX9_isRow_14 : decode cX9_isRow 14 = .ok (.isub, 1) := by decide +kernel
theorem dX9_isRow_15 : decode cX9_isRow 15 = .ok (.invokestatic 66, 3) := by decide +kernel
theorem dX9_isRow_18 : decode cX9_isRow 18 = .ok (.ifCond .eq 7, 3) := by decide +kernel
theorem dX9_isRow_21 : decode cX9_isRow 21 = .ok (.iconst 1, 1) := by decide +kernel
theorem dX9_isRow_22 : decode cX9_isRow 22 = .ok (.goto 4, 3) := by decide +kernel
theorem dX9_isRow_25 : decode cX9_isRow 25 = .ok (.iconst 0, 1) := by decide +kernel
theorem dX9_isRow_26 : decode cX9_isRow 26 = .ok (.ireturn, 1) := by decide +kernel
theorem dX9_turned_0 : decode cX9_turned 0 = .ok (.iconst 0, 1) := by decide +kernel
theorem dX9_turned_1 : decode cX9_turned 1 = .ok (.istore_n 2, 1) := by decide +kernel
theorem dX9_turned_2 : decode cX9_turned 2 = .ok (.iconst 0, 1) := by decide +kernel
theorem dX9_turned_3 : decode cX9_turned 3 = .ok (.istore_n 3, 1) := by decide +kernel
theorem dX9_turned_4 : decode cX9_turned 4 = .ok (.iload_n 3, 1) := by decide +kernel
theorem dX9_turned_5 : decode cX9_turned 5 = .ok (.aload_n 0, 1) := by decide +kernel
theorem dX9_turned_6 : decode cX9_turned 6 = .ok (.getfield 98, 3) := by decide +kernel
theorem dX9_turned_9 : decode cX9_turned 9 = .ok (.if_icmp .ge 26, 3) := by decide +kernel
theorem dX9_turned_12 : decode cX9_turned 12 = .ok (.iload_n 2, 1) := by decide +kernel
theorem dX9_turned_13 : decode cX9_turned 13 = .ok (.iload_n 1, 1) := by decide +kernel
theorem dX9_turned_14 : decode cX9_turned 14 = .ok (.iload_n 3, 1) := by decide +kernel
theorem dX9_turned_15 : decode cX9_turned 15 = .ok (.ishr, 1) := by decide +kernel
theorem dX9_turned_16 : decode cX9_turned 16 = .ok (.iconst 1, 1) := by decide +kernel
theorem dX9_turned_17 : decode cX9_turned 17 = .ok (.iand, 1) := by decide +kernel
theorem dX9_turned_18 : decode cX9_turned 18 = .ok (.aload_n 0, 1) := by decide +kernel
theorem dX9_turned_19 : decode cX9_turned 19 = .ok (.getfield 98, 3) := by decide +kernel
theorem dX9_turned_22 : decode cX9_turned 22 = .ok (.iconst 1, 1) := by decide +kernel
theorem dX9_turned_23 : decode cX9_turned 23 = .ok (.isub, 1) := by decide +kernel
theorem dX9_turned_24 : decode cX9_turned 24 = .ok (.iload_n 3, 1) := by decide +kernel
theorem dX9_turned_25 : decode cX9_turned 25 = .ok (.isub, 1) := by decide +kernel
theorem dX9_turned_26 : decode cX9_turned 26 = .ok (.ishl, 1) := by decide +kernel
theorem dX9_turned_27 : decode cX9_turned 27 = .ok (.ior, 1) := by decide +kernel
theorem dX9_turned_28 : decode cX9_turned 28 = .ok (.istore_n 2, 1) := by decide +kernel
theorem dX9_turned_29 : decode cX9_turned 29 = .ok (.iinc 3 1, 3) := by decide +kernel
theorem dX9_turned_32 : decode cX9_turned 32 = .ok (.goto (-28), 3) := by decide +kernel
theorem dX9_turned_35 : decode cX9_turned 35 = .ok (.iload_n 2, 1) := by decide +kernel
theorem dX9_turned_36 : decode cX9_turned 36 = .ok (.ireturn, 1) := by decide +kernel
theorem dX9_hitsBy_0 : decode cX9_hitsBy 0 = .ok (.iconst 1, 1) := by decide +kernel
theorem dX9_hitsBy_1 : decode cX9_hitsBy 1 = .ok (.iload_n 2, 1) := by decide +kernel
theorem dX9_hitsBy_2 : decode cX9_hitsBy 2 = .ok (.ishl, 1) := by decide +kernel
theorem dX9_hitsBy_3 : decode cX9_hitsBy 3 = .ok (.istore_n 3, 1) := by decide +kernel
theorem dX9_hitsBy_4 : decode cX9_hitsBy 4 = .ok (.iconst 1, 1) := by decide +kernel
theorem dX9_hitsBy_5 : decode cX9_hitsBy 5 = .ok (.aload_n 0, 1) := by decide +kernel
theorem dX9_hitsBy_6 : decode cX9_hitsBy 6 = .ok (.invokevirtual 122, 3) := by decide +kernel
theorem dX9_hitsBy_9 : decode cX9_hitsBy 9 = .ok (.iconst 1, 1) := by decide +kernel
theorem dX9_hitsBy_10 : decode cX9_hitsBy 10 = .ok (.isub, 1) := by decide +kernel
theorem dX9_hitsBy_11 : decode cX9_hitsBy 11 = .ok (.iload_n 2, 1) := by decide +kernel
theorem dX9_hitsBy_12 : decode cX9_hitsBy 12 = .ok (.isub, 1) := by decide +kernel
theorem dX9_hitsBy_13 : decode cX9_hitsBy 13 = .ok (.ishl, 1) := by decide +kernel
theorem dX9_hitsBy_14 : decode cX9_hitsBy 14 = .ok (.istore 4, 2) := by decide +kernel
theorem dX9_hitsBy_16 : decode cX9_hitsBy 16 = .ok (.iconst 1, 1) := by decide +kernel
theorem dX9_hitsBy_17 : decode cX9_hitsBy 17 = .ok (.aload_n 0, 1) := by decide +kernel
theorem dX9_hitsBy_18 : decode cX9_hitsBy 18 = .ok (.iload_n 2, 1) := by decide +kernel
theorem dX9_hitsBy_19 : decode cX9_hitsBy 19 = .ok (.invokevirtual 125, 3) := by decide +kernel
theorem dX9_hitsBy_22 : decode cX9_hitsBy 22 = .ok (.ishl, 1) := by decide +kernel
theorem dX9_hitsBy_23 : decode cX9_hitsBy 23 = .ok (.istore 5, 2) := by decide +kernel
theorem dX9_hitsBy_25 : decode cX9_hitsBy 25 = .ok (.iload_n 1, 1) := by decide +kernel
theorem dX9_hitsBy_26 : decode cX9_hitsBy 26 = .ok (.tableswitch 49 1 4 #[30, 33, 36, 41], 30) := by decide +kernel
theorem dX9_hitsBy_56 : decode cX9_hitsBy 56 = .ok (.iload 5, 2) := by decide +kernel
theorem dX9_hitsBy_58 : decode cX9_hitsBy 58 = .ok (.ireturn, 1) := by decide +kernel
theorem dX9_hitsBy_59 : decode cX9_hitsBy 59 = .ok (.iload 4, 2) := by decide +kernel
theorem dX9_hitsBy_61 : decode cX9_hitsBy 61 = .ok (.ireturn, 1) := by decide +kernel
theorem dX9_hitsBy_62 : decode cX9_hitsBy 62 = .ok (.iload_n 3, 1) := by decide +kernel
theorem dX9_hitsBy_63 : decode cX9_hitsBy 63 = .ok (.iload 4, 2) := by decide +kernel
theorem dX9_hitsBy_65 : decode cX9_hitsBy 65 = .ok (.ior, 1) := by decide +kernel
theorem dX9_hitsBy_66 : decode cX9_hitsBy 66 = .ok (.ireturn, 1) := by decide +kernel
theorem dX9_hitsBy_67 : decode cX9_hitsBy 67 = .ok (.iload_n 3, 1) := by decide +kernel
theorem dX9_hitsBy_68 : decode cX9_hitsBy 68 = .ok (.iload 4, 2) := by decide +kernel
theorem dX9_hitsBy_70 : decode cX9_hitsBy 70 = .ok (.ior, 1) := by decide +kernel
theorem dX9_hitsBy_71 : decode cX9_hitsBy 71 = .ok (.iload 5, 2) := by decide +kernel
theorem dX9_hitsBy_73 : decode cX9_hitsBy 73 = .ok (.ior, 1) := by decide +kernel
theorem dX9_hitsBy_74 : decode cX9_hitsBy 74 = .ok (.ireturn, 1) := by decide +kernel
theorem dX9_hitsBy_75 : decode cX9_hitsBy 75 = .ok (.iload_n 3, 1) := by decide +kernel
theorem dX9_hitsBy_76 : decode cX9_hitsBy 76 = .ok (.ireturn, 1) := by decide +kernel
theorem dX9_hitsOf_0 : decode cX9_hitsOf 0 = .ok (.aload_n 0, 1) := by decide +kernel
theorem dX9_hitsOf_1 : decode cX9_hitsOf 1 = .ok (.aload_n 0, 1) := by decide +kernel
theorem dX9_hitsOf_2 : decode cX9_hitsOf 2 = .ok (.getfield 7, 3) := by decide +kernel
theorem dX9_hitsOf_5 : decode cX9_hitsOf 5 = .ok (.iload_n 1, 1) := by decide +kernel
theorem dX9_hitsOf_6 : decode cX9_hitsOf 6 = .ok (.iaload, 1) := by decide +kernel
theorem dX9_hitsOf_7 : decode cX9_hitsOf 7 = .ok (.aload_n 0, 1) := by decide +kernel
theorem dX9_hitsOf_8 : decode cX9_hitsOf 8 = .ok (.getfield 13, 3) := by decide +kernel
theorem dX9_hitsOf_11 : decode cX9_hitsOf 11 = .ok (.iload_n 1, 1) := by decide +kernel
theorem dX9_hitsOf_12 : decode cX9_hitsOf 12 = .ok (.iaload, 1) := by decide +kernel
theorem dX9_hitsOf_13 : decode cX9_hitsOf 13 = .ok (.invokevirtual 128, 3) := by decide +kernel
theorem dX9_hitsOf_16 : decode cX9_hitsOf 16 = .ok (.ireturn, 1) := by decide +kernel
theorem dX9_playerNow_0 : decode cX9_playerNow 0 = .ok (.iload_n 2, 1) := by decide +kernel
theorem dX9_playerNow_1 : decode cX9_playerNow 1 = .ok (.tableswitch 85 0 5 #[39, 46, 53, 60, 70, 79], 39) := by decide +kernel
theorem dX9_playerNow_40 : decode cX9_playerNow 40 = .ok (.aload_n 0, 1) := by decide +kernel
theorem dX9_playerNow_41 : decode cX9_playerNow 41 = .ok (.getfield 7, 3) := by decide +kernel
theorem dX9_playerNow_44 : decode cX9_playerNow 44 = .ok (.iload_n 1, 1) := by decide +kernel
theorem dX9_playerNow_45 : decode cX9_playerNow 45 = .ok (.iaload, 1) := by decide +kernel
theorem dX9_playerNow_46 : decode cX9_playerNow 46 = .ok (.ireturn, 1) := by decide +kernel
theorem dX9_playerNow_47 : decode cX9_playerNow 47 = .ok (.aload_n 0, 1) := by decide +kernel
theorem dX9_playerNow_48 : decode cX9_playerNow 48 = .ok (.getfield 13, 3) := by decide +kernel
theorem dX9_playerNow_51 : decode cX9_playerNow 51 = .ok (.iload_n 1, 1) := by decide +kernel
theorem dX9_playerNow_52 : decode cX9_playerNow 52 = .ok (.iaload, 1) := by decide +kernel
theorem dX9_playerNow_53 : decode cX9_playerNow 53 = .ok (.ireturn, 1) := by decide +kernel
theorem dX9_playerNow_54 : decode cX9_playerNow 54 = .ok (.aload_n 0, 1) := by decide +kernel
theorem dX9_playerNow_55 : decode cX9_playerNow 55 = .ok (.getfield 16, 3) := by decide +kernel
theorem dX9_playerNow_58 : decode cX9_playerNow 58 = .ok (.iload_n 1, 1) := by decide +kernel
theorem dX9_playerNow_59 : decode cX9_playerNow 59 = .ok (.iaload, 1) := by decide +kernel
theorem dX9_playerNow_60 : decode cX9_playerNow 60 = .ok (.ireturn, 1) := by decide +kernel
theorem dX9_playerNow_61 : decode cX9_playerNow 61 = .ok (.aload_n 0, 1) := by decide +kernel
theorem dX9_playerNow_62 : decode cX9_playerNow 62 = .ok (.aload_n 0, 1) := by decide +kernel
theorem dX9_playerNow_63 : decode cX9_playerNow 63 = .ok (.iload_n 1, 1) := by decide +kernel
theorem dX9_playerNow_64 : decode cX9_playerNow 64 = .ok (.invokevirtual 132, 3) := by decide +kernel
theorem dX9_playerNow_67 : decode cX9_playerNow 67 = .ok (.invokevirtual 135, 3) := by decide +kernel
theorem dX9_playerNow_70 : decode cX9_playerNow 70 = .ok (.ireturn, 1) := by decide +kernel
theorem dX9_playerNow_71 : decode cX9_playerNow 71 = .ok (.aload_n 0, 1) := by decide +kernel
theorem dX9_playerNow_72 : decode cX9_playerNow 72 = .ok (.iload_n 1, 1) := by decide +kernel
theorem dX9_playerNow_73 : decode cX9_playerNow 73 = .ok (.invokevirtual 132, 3) := by decide +kernel
theorem dX9_playerNow_76 : decode cX9_playerNow 76 = .ok (.invokestatic 138, 3) := by decide +kernel
theorem dX9_playerNow_79 : decode cX9_playerNow 79 = .ok (.ireturn, 1) := by decide +kernel
theorem dX9_playerNow_80 : decode cX9_playerNow 80 = .ok (.aload_n 0, 1) := by decide +kernel
theorem dX9_playerNow_81 : decode cX9_playerNow 81 = .ok (.iload_n 1, 1) := by decide +kernel
theorem dX9_playerNow_82 : decode cX9_playerNow 82 = .ok (.invokevirtual 141, 3) := by decide +kernel
theorem dX9_playerNow_85 : decode cX9_playerNow 85 = .ok (.ireturn, 1) := by decide +kernel
theorem dX9_playerNow_86 : decode cX9_playerNow 86 = .ok (.aload_n 0, 1) := by decide +kernel
theorem dX9_playerNow_87 : decode cX9_playerNow 87 = .ok (.iload_n 1, 1) := by decide +kernel
theorem dX9_playerNow_88 : decode cX9_playerNow 88 = .ok (.invokevirtual 144, 3) := by decide +kernel
theorem dX9_playerNow_91 : decode cX9_playerNow 91 = .ok (.ireturn, 1) := by decide +kernel
theorem dX9_player_0 : decode cX9_player 0 = .ok (.aload_n 0, 1) := by decide +kernel
theorem dX9_player_1 : decode cX9_player 1 = .ok (.iload_n 1, 1) := by decide +kernel
theorem dX9_player_2 : decode cX9_player 2 = .ok (.invokevirtual 147, 3) := by decide +kernel
theorem dX9_player_5 : decode cX9_player 5 = .ok (.ifCond .ne 8, 3) := by decide +kernel
theorem dX9_player_8 : decode cX9_player 8 = .ok (.bipush (-101), 2) := by decide +kernel
theorem dX9_player_10 : decode cX9_player 10 = .ok (.goto 24, 3) := by decide +kernel
theorem dX9_player_13 : decode cX9_player 13 = .ok (.iload_n 2, 1) := by decide +kernel
theorem dX9_player_14 : decode cX9_player 14 = .ok (.iconst 0, 1) := by decide +kernel
theorem dX9_player_15 : decode cX9_player 15 = .ok (.bipush 6, 2) := by decide +kernel
theorem dX9_player_17 : decode cX9_player 17 = .ok (.invokestatic 66, 3) := by decide +kernel
theorem dX9_player_20 : decode cX9_player 20 = .ok (.ifCond .eq 12, 3) := by decide +kernel
theorem dX9_player_23 : decode cX9_player 23 = .ok (.aload_n 0, 1) := by decide +kernel
theorem dX9_player_24 : decode cX9_player 24 = .ok (.iload_n 1, 1) := by decide +kernel
theorem dX9_player_25 : decode cX9_player 25 = .ok (.iload_n 2, 1) := by decide +kernel
theorem dX9_player_26 : decode cX9_player 26 = .ok (.invokevirtual 151, 3) := by decide +kernel
theorem dX9_player_29 : decode cX9_player 29 = .ok (.goto 5, 3) := by decide +kernel
theorem dX9_player_32 : decode cX9_player 32 = .ok (.bipush (-102), 2) := by decide +kernel
theorem dX9_player_34 : decode cX9_player 34 = .ok (.ireturn, 1) := by decide +kernel
theorem dX9_as_0 : decode cX9_as 0 = .ok (.aload_n 0, 1) := by decide +kernel
theorem dX9_as_1 : decode cX9_as 1 = .ok (.iload_n 1, 1) := by decide +kernel
theorem dX9_as_2 : decode cX9_as 2 = .ok (.invokevirtual 147, 3) := by decide +kernel
theorem dX9_as_5 : decode cX9_as 5 = .ok (.ifCond .ne 6, 3) := by decide +kernel
theorem dX9_as_8 : decode cX9_as 8 = .ok (.bipush (-101), 2) := by decide +kernel
theorem dX9_as_10 : decode cX9_as 10 = .ok (.ireturn, 1) := by decide +kernel
theorem dX9_as_11 : decode cX9_as 11 = .ok (.iload_n 2, 1) := by decide +kernel
theorem dX9_as_12 : decode cX9_as 12 = .ok (.iconst 0, 1) := by decide +kernel
theorem dX9_as_13 : decode cX9_as 13 = .ok (.iconst 4, 1) := by decide +kernel
theorem dX9_as_14 : decode cX9_as 14 = .ok (.invokestatic 66, 3) := by decide +kernel
theorem dX9_as_17 : decode cX9_as 17 = .ok (.ifCond .ne 6, 3) := by decide +kernel
theorem dX9_as_20 : decode cX9_as 20 = .ok (.bipush (-102), 2) := by decide +kernel
theorem dX9_as_22 : decode cX9_as 22 = .ok (.ireturn, 1) := by decide +kernel
theorem dX9_as_23 : decode cX9_as 23 = .ok (.aload_n 0, 1) := by decide +kernel
theorem dX9_as_24 : decode cX9_as 24 = .ok (.getfield 7, 3) := by decide +kernel
theorem dX9_as_27 : decode cX9_as 27 = .ok (.iload_n 1, 1) := by decide +kernel
theorem dX9_as_28 : decode cX9_as 28 = .ok (.iaload, 1) := by decide +kernel
theorem dX9_as_29 : decode cX9_as 29 = .ok (.istore_n 3, 1) := by decide +kernel
theorem dX9_as_30 : decode cX9_as 30 = .ok (.iload_n 2, 1) := by decide +kernel
theorem dX9_as_31 : decode cX9_as 31 = .ok (.ifCond .eq 18, 3) := by decide +kernel
theorem dX9_as_34 : decode cX9_as 34 = .ok (.iload_n 3, 1) := by decide +kernel
theorem dX9_as_35 : decode cX9_as 35 = .ok (.iload_n 2, 1) := by decide +kernel
theorem dX9_as_36 : decode cX9_as 36 = .ok (.if_icmp .eq 13, 3) := by decide +kernel
theorem dX9_as_39 : decode cX9_as 39 = .ok (.iload_n 2, 1) := by decide +kernel
theorem dX9_as_40 : decode cX9_as 40 = .ok (.iconst 3, 1) := by decide +kernel
theorem dX9_as_41 : decode cX9_as 41 = .ok (.if_icmp .ne 12, 3) := by decide +kernel
theorem dX9_as_44 : decode cX9_as 44 = .ok (.iload_n 3, 1) := by decide +kernel
theorem dX9_as_45 : decode cX9_as 45 = .ok (.iconst 4, 1) := by decide +kernel
theorem dX9_as_46 : decode cX9_as 46 = .ok (.if_icmp .ne 7, 3) := by decide +kernel
theorem dX9_as_49 : decode cX9_as 49 = .ok (.iload_n 1, 1) := by decide +kernel
theorem dX9_as_50 : decode cX9_as 50 = .ok (.goto 4, 3) := by decide +kernel
theorem dX9_as_53 : decode cX9_as 53 = .ok (.iconst (-1), 1) := by decide +kernel
theorem dX9_as_54 : decode cX9_as 54 = .ok (.ireturn, 1) := by decide +kernel
theorem dX9_hits_0 : decode cX9_hits 0 = .ok (.aload_n 0, 1) := by decide +kernel
theorem dX9_hits_1 : decode cX9_hits 1 = .ok (.iload_n 1, 1) := by decide +kernel
theorem dX9_hits_2 : decode cX9_hits 2 = .ok (.invokevirtual 147, 3) := by decide +kernel
theorem dX9_hits_5 : decode cX9_hits 5 = .ok (.ifCond .ne 6, 3) := by decide +kernel
theorem dX9_hits_8 : decode cX9_hits 8 = .ok (.bipush (-101), 2) := by decide +kernel
theorem dX9_hits_10 : decode cX9_hits 10 = .ok (.ireturn, 1) := by decide +kernel
theorem dX9_hits_11 : decode cX9_hits 11 = .ok (.aload_n 0, 1) := by decide +kernel
theorem dX9_hits_12 : decode cX9_hits 12 = .ok (.iload_n 2, 1) := by decide +kernel
theorem dX9_hits_13 : decode cX9_hits 13 = .ok (.invokevirtual 154, 3) := by decide +kernel
theorem dX9_hits_16 : decode cX9_hits 16 = .ok (.ifCond .ne 8, 3) := by decide +kernel
theorem dX9_hits_19 : decode cX9_hits 19 = .ok (.bipush (-102), 2) := by decide +kernel
theorem dX9_hits_21 : decode cX9_hits 21 = .ok (.goto 12, 3) := by decide +kernel
theorem dX9_hits_24 : decode cX9_hits 24 = .ok (.aload_n 0, 1) := by decide +kernel
theorem dX9_hits_25 : decode cX9_hits 25 = .ok (.iload_n 1, 1) := by decide +kernel
theorem dX9_hits_26 : decode cX9_hits 26 = .ok (.invokevirtual 132, 3) := by decide +kernel
theorem dX9_hits_29 : decode cX9_hits 29 = .ok (.iload_n 2, 1) := by decide +kernel
theorem dX9_hits_30 : decode cX9_hits 30 = .ok (.ishr, 1) := by decide +kernel
theorem dX9_hits_31 : decode cX9_hits 31 = .ok (.iconst 1, 1) := by decide +kernel
theorem dX9_hits_32 : decode cX9_hits 32 = .ok (.iand, 1) := by decide +kernel
theorem dX9_hits_33 : decode cX9_hits 33 = .ok (.ireturn, 1) := by decide +kernel
theorem dX9_whoHits_0 : decode cX9_whoHits 0 = .ok (.iconst 0, 1) := by decide +kernel
theorem dX9_whoHits_1 : decode cX9_whoHits 1 = .ok (.istore_n 3, 1) := by decide +kernel
theorem dX9_whoHits_2 : decode cX9_whoHits 2 = .ok (.iconst 0, 1) := by decide +kernel
theorem dX9_whoHits_3 : decode cX9_whoHits 3 = .ok (.istore 4, 2) := by decide +kernel
theorem dX9_whoHits_5 : decode cX9_whoHits 5 = .ok (.iload 4, 2) := by decide +kernel
theorem dX9_whoHits_7 : decode cX9_whoHits 7 = .ok (.aload_n 0, 1) := by decide +kernel
theorem dX9_whoHits_8 : decode cX9_whoHits 8 = .ok (.getfield 101, 3) := by decide +kernel
theorem dX9_whoHits_11 : decode cX9_whoHits 11 = .ok (.if_icmp .ge 48, 3) := by decide +kernel
theorem dX9_whoHits_14 : decode cX9_whoHits 14 = .ok (.iload_n 1, 1) := by decide +kernel
theorem dX9_whoHits_15 : decode cX9_whoHits 15 = .ok (.aload_n 0, 1) := by decide +kernel
theorem dX9_whoHits_16 : decode cX9_whoHits 16 = .ok (.getfield 98, 3) := by decide +kernel
theorem dX9_whoHits_19 : decode cX9_whoHits 19 = .ok (.if_icmp .lt 40, 3) := by decide +kernel
theorem dX9_whoHits_22 : decode cX9_whoHits 22 = .ok (.iload_n 3, 1) := by decide +kernel
theorem dX9_whoHits_23 : decode cX9_whoHits 23 = .ok (.aload_n 0, 1) := by decide +kernel
theorem dX9_whoHits_24 : decode cX9_whoHits 24 = .ok (.iload 4, 2) := by decide +kernel
theorem dX9_whoHits_26 : decode cX9_whoHits 26 = .ok (.invokevirtual 132, 3) := by decide +kernel
theorem dX9_whoHits_29 : decode cX9_whoHits 29 = .ok (.iload_n 2, 1) := by decide +kernel
theorem dX9_whoHits_30 : decode cX9_whoHits 30 = .ok (.aload_n 0, 1) := by decide +kernel
theorem dX9_whoHits_31 : decode cX9_whoHits 31 = .ok (.invokevirtual 122, 3) := by decide +kernel
theorem dX9_whoHits_34 : decode cX9_whoHits 34 = .ok (.iconst 1, 1) := by decide +kernel
theorem dX9_whoHits_35 : decode cX9_whoHits 35 = .ok (.isub, 1) := by decide +kernel
theorem dX9_whoHits_36 : decode cX9_whoHits 36 = .ok (.iand, 1) := by decide +kernel
theorem dX9_whoHits_37 : decode cX9_whoHits 37 = .ok (.invokestatic 157, 3) := by decide +kernel
theorem dX9_whoHits_40 : decode cX9_whoHits 40 = .ok (.ifCond .eq 10, 3) := by decide +kernel
theorem dX9_whoHits_43 : decode cX9_whoHits 43 = .ok (.iconst 1, 1) := by decide +kernel
theorem dX9_whoHits_44 : decode cX9_whoHits 44 = .ok (.iload 4, 2) := by decide +kernel
theorem dX9_whoHits_46 : decode cX9_whoHits 46 = .ok (.ishl, 1) := by decide +kernel
theorem dX9_whoHits_47 : decode cX9_whoHits 47 = .ok (.goto 4, 3) := by decide +kernel
theorem dX9_whoHits_50 : decode cX9_whoHits 50 = .ok (.iconst 0, 1) := by decide +kernel
theorem dX9_whoHits_51 : decode cX9_whoHits 51 = .ok (.ior, 1) := by decide +kernel
theorem dX9_whoHits_52 : decode cX9_whoHits 52 = .ok (.istore_n 3, 1) := by decide +kernel
theorem dX9_whoHits_53 : decode cX9_whoHits 53 = .ok (.iinc 4 1, 3) := by decide +kernel
theorem dX9_whoHits_56 : decode cX9_whoHits 56 = .ok (.goto (-51), 3) := by decide +kernel
theorem dX9_whoHits_59 : decode cX9_whoHits 59 = .ok (.iload_n 3, 1) := by decide +kernel
theorem dX9_whoHits_60 : decode cX9_whoHits 60 = .ok (.ireturn, 1) := by decide +kernel
theorem dX9_toss_0 : decode cX9_toss 0 = .ok (.iload_n 1, 1) := by decide +kernel
theorem dX9_toss_1 : decode cX9_toss 1 = .ok (.iconst 0, 1) := by decide +kernel
theorem dX9_toss_2 : decode cX9_toss 2 = .ok (.iconst 1, 1) := by decide +kernel
theorem dX9_toss_3 : decode cX9_toss 3 = .ok (.invokestatic 66, 3) := by decide +kernel
theorem dX9_toss_6 : decode cX9_toss 6 = .ok (.ifCond .ne 6, 3) := by decide +kernel
theorem dX9_toss_9 : decode cX9_toss 9 = .ok (.bipush (-102), 2) := by decide +kernel
theorem dX9_toss_11 : decode cX9_toss 11 = .ok (.ireturn, 1) := by decide +kernel
theorem dX9_toss_12 : decode cX9_toss 12 = .ok (.aload_n 0, 1) := by decide +kernel
theorem dX9_toss_13 : decode cX9_toss 13 = .ok (.getfield 101, 3) := by decide +kernel
theorem dX9_toss_16 : decode cX9_toss 16 = .ok (.ifCond .ne 6, 3) := by decide +kernel
theorem dX9_toss_19 : decode cX9_toss 19 = .ok (.bipush (-103), 2) := by decide +kernel
theorem dX9_toss_21 : decode cX9_toss 21 = .ok (.ireturn, 1) := by decide +kernel
theorem dX9_toss_22 : decode cX9_toss 22 = .ok (.aload_n 0, 1) := by decide +kernel
theorem dX9_toss_23 : decode cX9_toss 23 = .ok (.getfield 113, 3) := by decide +kernel
theorem dX9_toss_26 : decode cX9_toss 26 = .ok (.sipush 9999, 3) := by decide +kernel
theorem dX9_toss_29 : decode cX9_toss 29 = .ok (.if_icmp .ne 6, 3) := by decide +kernel
theorem dX9_toss_32 : decode cX9_toss 32 = .ok (.bipush (-104), 2) := by decide +kernel
theorem dX9_toss_34 : decode cX9_toss 34 = .ok (.ireturn, 1) := by decide +kernel
theorem dX9_toss_35 : decode cX9_toss 35 = .ok (.aload_n 0, 1) := by decide +kernel
theorem dX9_toss_36 : decode cX9_toss 36 = .ok (.dup, 1) := by decide +kernel
theorem dX9_toss_37 : decode cX9_toss 37 = .ok (.getfield 113, 3) := by decide +kernel
theorem dX9_toss_40 : decode cX9_toss 40 = .ok (.iconst 1, 1) := by decide +kernel
theorem dX9_toss_41 : decode cX9_toss 41 = .ok (.iadd, 1) := by decide +kernel
theorem dX9_toss_42 : decode cX9_toss 42 = .ok (.putfield 113, 3) := by decide +kernel
theorem dX9_toss_45 : decode cX9_toss 45 = .ok (.aload_n 0, 1) := by decide +kernel
theorem dX9_toss_46 : decode cX9_toss 46 = .ok (.dup, 1) := by decide +kernel
theorem dX9_toss_47 : decode cX9_toss 47 = .ok (.getfield 107, 3) := by decide +kernel
theorem dX9_toss_50 : decode cX9_toss 50 = .ok (.iconst 1, 1) := by decide +kernel
theorem dX9_toss_51 : decode cX9_toss 51 = .ok (.iadd, 1) := by decide +kernel
theorem dX9_toss_52 : decode cX9_toss 52 = .ok (.putfield 107, 3) := by decide +kernel
theorem dX9_toss_55 : decode cX9_toss 55 = .ok (.aload_n 0, 1) := by decide +kernel
theorem dX9_toss_56 : decode cX9_toss 56 = .ok (.aload_n 0, 1) := by decide +kernel
theorem dX9_toss_57 : decode cX9_toss 57 = .ok (.getfield 110, 3) := by decide +kernel
theorem dX9_toss_60 : decode cX9_toss 60 = .ok (.iconst 1, 1) := by decide +kernel
theorem dX9_toss_61 : decode cX9_toss 61 = .ok (.ishl, 1) := by decide +kernel
theorem dX9_toss_62 : decode cX9_toss 62 = .ok (.iload_n 1, 1) := by decide +kernel
theorem dX9_toss_63 : decode cX9_toss 63 = .ok (.ior, 1) := by decide +kernel
theorem dX9_toss_64 : decode cX9_toss 64 = .ok (.bipush 15, 2) := by decide +kernel
theorem dX9_toss_66 : decode cX9_toss 66 = .ok (.iand, 1) := by decide +kernel
theorem dX9_toss_67 : decode cX9_toss 67 = .ok (.putfield 110, 3) := by decide +kernel
theorem dX9_toss_70 : decode cX9_toss 70 = .ok (.aload_n 0, 1) := by decide +kernel
theorem dX9_toss_71 : decode cX9_toss 71 = .ok (.aload_n 0, 1) := by decide +kernel
theorem dX9_toss_72 : decode cX9_toss 72 = .ok (.getfield 107, 3) := by decide +kernel
theorem dX9_toss_75 : decode cX9_toss 75 = .ok (.aload_n 0, 1) := by decide +kernel
theorem dX9_toss_76 : decode cX9_toss 76 = .ok (.getfield 110, 3) := by decide +kernel
theorem dX9_toss_79 : decode cX9_toss 79 = .ok (.invokevirtual 161, 3) := by decide +kernel
theorem dX9_toss_82 : decode cX9_toss 82 = .ok (.istore_n 2, 1) := by decide +kernel
theorem dX9_toss_83 : decode cX9_toss 83 = .ok (.iconst 0, 1) := by decide +kernel
theorem dX9_toss_84 : decode cX9_toss 84 = .ok (.istore_n 3, 1) := by decide +kernel
theorem dX9_toss_85 : decode cX9_toss 85 = .ok (.iload_n 3, 1) := by decide +kernel
theorem dX9_toss_86 : decode cX9_toss 86 = .ok (.aload_n 0, 1) := by decide +kernel
theorem dX9_toss_87 : decode cX9_toss 87 = .ok (.getfield 101, 3) := by decide +kernel
theorem dX9_toss_90 : decode cX9_toss 90 = .ok (.if_icmp .ge 23, 3) := by decide +kernel
theorem dX9_toss_93 : decode cX9_toss 93 = .ok (.aload_n 0, 1) := by decide +kernel
theorem dX9_toss_94 : decode cX9_toss 94 = .ok (.getfield 16, 3) := by decide +kernel
theorem dX9_toss_97 : decode cX9_toss 97 = .ok (.iload_n 3, 1) := by decide +kernel
theorem dX9_toss_98 : decode cX9_toss 98 = .ok (.dup2, 1) := by decide +kernel
theorem dX9_toss_99 : decode cX9_toss 99 = .ok (.iaload, 1) := by decide +kernel
theorem dX9_toss_100 : decode cX9_toss 100 = .ok (.iload_n 2, 1) := by decide +kernel
theorem dX9_toss_101 : decode cX9_toss 101 = .ok (.iload_n 3, 1) := by decide +kernel
theorem dX9_toss_102 : decode cX9_toss 102 = .ok (.ishr, 1) := by decide +kernel
theorem dX9_toss_103 : decode cX9_toss 103 = .ok (.iconst 1, 1) := by decide +kernel
theorem dX9_toss_104 : decode cX9_toss 104 = .ok (.iand, 1) := by decide +kernel
theorem dX9_toss_105 : decode cX9_toss 105 = .ok (.iadd, 1) := by decide +kernel
theorem dX9_toss_106 : decode cX9_toss 106 = .ok (.iastore, 1) := by decide +kernel
theorem dX9_toss_107 : decode cX9_toss 107 = .ok (.iinc 3 1, 3) := by decide +kernel
theorem dX9_toss_110 : decode cX9_toss 110 = .ok (.goto (-25), 3) := by decide +kernel
theorem dX9_toss_113 : decode cX9_toss 113 = .ok (.iload_n 2, 1) := by decide +kernel
theorem dX9_toss_114 : decode cX9_toss 114 = .ok (.ifCond .eq 13, 3) := by decide +kernel
theorem dX9_toss_117 : decode cX9_toss 117 = .ok (.aload_n 0, 1) := by decide +kernel
theorem dX9_toss_118 : decode cX9_toss 118 = .ok (.iconst 0, 1) := by decide +kernel
theorem dX9_toss_119 : decode cX9_toss 119 = .ok (.putfield 107, 3) := by decide +kernel
theorem dX9_toss_122 : decode cX9_toss 122 = .ok (.aload_n 0, 1) := by decide +kernel
theorem dX9_toss_123 : decode cX9_toss 123 = .ok (.iconst 0, 1) := by decide +kernel
theorem dX9_toss_124 : decode cX9_toss 124 = .ok (.putfield 110, 3) := by decide +kernel
theorem dX9_toss_127 : decode cX9_toss 127 = .ok (.iload_n 2, 1) := by decide +kernel
theorem dX9_toss_128 : decode cX9_toss 128 = .ok (.ireturn, 1) := by decide +kernel
theorem dX9_anew_0 : decode cX9_anew 0 = .ok (.aload_n 0, 1) := by decide +kernel
theorem dX9_anew_1 : decode cX9_anew 1 = .ok (.getfield 101, 3) := by decide +kernel
theorem dX9_anew_4 : decode cX9_anew 4 = .ok (.ifCond .ne 6, 3) := by decide +kernel
theorem dX9_anew_7 : decode cX9_anew 7 = .ok (.bipush (-103), 2) := by decide +kernel
theorem dX9_anew_9 : decode cX9_anew 9 = .ok (.ireturn, 1) := by decide +kernel
theorem dX9_anew_10 : decode cX9_anew 10 = .ok (.aload_n 0, 1) := by decide +kernel
theorem dX9_anew_11 : decode cX9_anew 11 = .ok (.getfield 107, 3) := by decide +kernel
theorem dX9_anew_14 : decode cX9_anew 14 = .ok (.istore_n 1, 1) := by decide +kernel
theorem dX9_anew_15 : decode cX9_anew 15 = .ok (.aload_n 0, 1) := by decide +kernel
theorem dX9_anew_16 : decode cX9_anew 16 = .ok (.iconst 0, 1) := by decide +kernel
theorem dX9_anew_17 : decode cX9_anew 17 = .ok (.putfield 107, 3) := by decide +kernel
theorem dX9_anew_20 : decode cX9_anew 20 = .ok (.aload_n 0, 1) := by decide +kernel
theorem dX9_anew_21 : decode cX9_anew 21 = .ok (.iconst 0, 1) := by decide +kernel
theorem dX9_anew_22 : decode cX9_anew 22 = .ok (.putfield 110, 3) := by decide +kernel
theorem dX9_anew_25 : decode cX9_anew 25 = .ok (.iload_n 1, 1) := by decide +kernel
theorem dX9_anew_26 : decode cX9_anew 26 = .ok (.ireturn, 1) := by decide +kernel
theorem dX9_bet_0 : decode cX9_bet 0 = .ok (.aload_n 0, 1) := by decide +kernel
theorem dX9_bet_1 : decode cX9_bet 1 = .ok (.iload_n 1, 1) := by decide +kernel
theorem dX9_bet_2 : decode cX9_bet 2 = .ok (.invokevirtual 147, 3) := by decide +kernel
theorem dX9_bet_5 : decode cX9_bet 5 = .ok (.ifCond .ne 6, 3) := by decide +kernel
theorem dX9_bet_8 : decode cX9_bet 8 = .ok (.bipush (-101), 2) := by decide +kernel
theorem dX9_bet_10 : decode cX9_bet 10 = .ok (.ireturn, 1) := by decide +kernel
theorem dX9_bet_11 : decode cX9_bet 11 = .ok (.aload_n 0, 1) := by decide +kernel
theorem dX9_bet_12 : decode cX9_bet 12 = .ok (.iload_n 2, 1) := by decide +kernel
theorem dX9_bet_13 : decode cX9_bet 13 = .ok (.invokevirtual 154, 3) := by decide +kernel
theorem dX9_bet_16 : decode cX9_bet 16 = .ok (.ifCond .ne 6, 3) := by decide +kernel
theorem dX9_bet_19 : decode cX9_bet 19 = .ok (.bipush (-102), 2) := by decide +kernel
theorem dX9_bet_21 : decode cX9_bet 21 = .ok (.ireturn, 1) := by decide +kernel
theorem dX9_bet_22 : decode cX9_bet 22 = .ok (.aload_n 0, 1) := by decide +kernel
theorem dX9_bet_23 : decode cX9_bet 23 = .ok (.getfield 13, 3) := by decide +kernel
theorem dX9_bet_26 : decode cX9_bet 26 = .ok (.iload_n 1, 1) := by decide +kernel
theorem dX9_bet_27 : decode cX9_bet 27 = .ok (.iaload, 1) := by decide +kernel
theorem dX9_bet_28 : decode cX9_bet 28 = .ok (.istore_n 3, 1) := by decide +kernel
theorem dX9_bet_29 : decode cX9_bet 29 = .ok (.aload_n 0, 1) := by decide +kernel
theorem dX9_bet_30 : decode cX9_bet 30 = .ok (.getfield 13, 3) := by decide +kernel
theorem dX9_bet_33 : decode cX9_bet 33 = .ok (.iload_n 1, 1) := by decide +kernel
theorem dX9_bet_34 : decode cX9_bet 34 = .ok (.iload_n 2, 1) := by decide +kernel
theorem dX9_bet_35 : decode cX9_bet 35 = .ok (.iastore, 1) := by decide +kernel
theorem dX9_bet_36 : decode cX9_bet 36 = .ok (.iload_n 3, 1) := by decide +kernel
theorem dX9_bet_37 : decode cX9_bet 37 = .ok (.ireturn, 1) := by decide +kernel
theorem dX9_be_0 : decode cX9_be 0 = .ok (.aload_n 0, 1) := by decide +kernel
theorem dX9_be_1 : decode cX9_be 1 = .ok (.iload_n 1, 1) := by decide +kernel
theorem dX9_be_2 : decode cX9_be 2 = .ok (.invokevirtual 147, 3) := by decide +kernel
theorem dX9_be_5 : decode cX9_be 5 = .ok (.ifCond .ne 6, 3) := by decide +kernel
theorem dX9_be_8 : decode cX9_be 8 = .ok (.bipush (-101), 2) := by decide +kernel
theorem dX9_be_10 : decode cX9_be 10 = .ok (.ireturn, 1) := by decide +kernel
theorem dX9_be_11 : decode cX9_be 11 = .ok (.iload_n 2, 1) := by decide +kernel
theorem dX9_be_12 : decode cX9_be 12 = .ok (.iconst 0, 1) := by decide +kernel
theorem dX9_be_13 : decode cX9_be 13 = .ok (.iconst 4, 1) := by decide +kernel
theorem dX9_be_14 : decode cX9_be 14 = .ok (.invokestatic 66, 3) := by decide +kernel
theorem dX9_be_17 : decode cX9_be 17 = .ok (.ifCond .ne 6, 3) := by decide +kernel
theorem dX9_be_20 : decode cX9_be 20 = .ok (.bipush (-102), 2) := by decide +kernel
theorem dX9_be_22 : decode cX9_be 22 = .ok (.ireturn, 1) := by decide +kernel
theorem dX9_be_23 : decode cX9_be 23 = .ok (.aload_n 0, 1) := by decide +kernel
theorem dX9_be_24 : decode cX9_be 24 = .ok (.getfield 7, 3) := by decide +kernel
theorem dX9_be_27 : decode cX9_be 27 = .ok (.iload_n 1, 1) := by decide +kernel
theorem dX9_be_28 : decode cX9_be 28 = .ok (.iaload, 1) := by decide +kernel
theorem dX9_be_29 : decode cX9_be 29 = .ok (.istore_n 3, 1) := by decide +kernel
theorem dX9_be_30 : decode cX9_be 30 = .ok (.aload_n 0, 1) := by decide +kernel
theorem dX9_be_31 : decode cX9_be 31 = .ok (.getfield 7, 3) := by decide +kernel
theorem dX9_be_34 : decode cX9_be 34 = .ok (.iload_n 1, 1) := by decide +kernel
theorem dX9_be_35 : decode cX9_be 35 = .ok (.iload_n 2, 1) := by decide +kernel
theorem dX9_be_36 : decode cX9_be 36 = .ok (.iastore, 1) := by decide +kernel
theorem dX9_be_37 : decode cX9_be 37 = .ok (.iload_n 3, 1) := by decide +kernel
theorem dX9_be_38 : decode cX9_be 38 = .ok (.ireturn, 1) := by decide +kernel
theorem dX9_unknowns_0 : decode cX9_unknowns 0 = .ok (.iconst 1, 1) := by decide +kernel
theorem dX9_unknowns_1 : decode cX9_unknowns 1 = .ok (.aload_n 0, 1) := by decide +kernel
theorem dX9_unknowns_2 : decode cX9_unknowns 2 = .ok (.getfield 98, 3) := by decide +kernel
theorem dX9_unknowns_5 : decode cX9_unknowns 5 = .ok (.iconst 1, 1) := by decide +kernel
theorem dX9_unknowns_6 : decode cX9_unknowns 6 = .ok (.isub, 1) := by decide +kernel
theorem dX9_unknowns_7 : decode cX9_unknowns 7 = .ok (.ishl, 1) := by decide +kernel
theorem dX9_unknowns_8 : decode cX9_unknowns 8 = .ok (.ireturn, 1) := by decide +kernel
theorem dX9_clear_0 : decode cX9_clear 0 = .ok (.iconst 0, 1) := by decide +kernel
theorem dX9_clear_1 : decode cX9_clear 1 = .ok (.istore_n 1, 1) := by decide +kernel
theorem dX9_clear_2 : decode cX9_clear 2 = .ok (.iload_n 1, 1) := by decide +kernel
theorem dX9_clear_3 : decode cX9_clear 3 = .ok (.bipush 72, 2) := by decide +kernel
theorem dX9_clear_5 : decode cX9_clear 5 = .ok (.if_icmp .ge 16, 3) := by decide +kernel
theorem dX9_clear_8 : decode cX9_clear 8 = .ok (.aload_n 0, 1) := by decide +kernel
theorem dX9_clear_9 : decode cX9_clear 9 = .ok (.getfield 32, 3) := by decide +kernel
theorem dX9_clear_12 : decode cX9_clear 12 = .ok (.iload_n 1, 1) := by decide +kernel
theorem dX9_clear_13 : decode cX9_clear 13 = .ok (.lconst 0, 1) := by decide +kernel
theorem dX9_clear_14 : decode cX9_clear 14 = .ok (.lastore, 1) := by decide +kernel
theorem dX9_clear_15 : decode cX9_clear 15 = .ok (.iinc 1 1, 3) := by decide +kernel
theorem dX9_clear_18 : decode cX9_clear 18 = .ok (.goto (-16), 3) := by decide +kernel
theorem dX9_clear_21 : decode cX9_clear 21 = .ok (.return_, 1) := by decide +kernel
theorem dX9_exchange_0 : decode cX9_exchange 0 = .ok (.iconst 0, 1) := by decide +kernel
theorem dX9_exchange_1 : decode cX9_exchange 1 = .ok (.istore_n 3, 1) := by decide +kernel
theorem dX9_exchange_2 : decode cX9_exchange 2 = .ok (.iload_n 3, 1) := by decide +kernel
theorem dX9_exchange_3 : decode cX9_exchange 3 = .ok (.bipush 9, 2) := by decide +kernel
theorem dX9_exchange_5 : decode cX9_exchange 5 = .ok (.if_icmp .ge 57, 3) := by decide +kernel
theorem dX9_exchange_8 : decode cX9_exchange 8 = .ok (.aload_n 0, 1) := by decide +kernel
theorem dX9_exchange_9 : decode cX9_exchange 9 = .ok (.getfield 32, 3) := by decide +kernel
theorem dX9_exchange_12 : decode cX9_exchange 12 = .ok (.bipush 9, 2) := by decide +kernel
theorem dX9_exchange_14 : decode cX9_exchange 14 = .ok (.iload_n 1, 1) := by decide +kernel
theorem dX9_exchange_15 : decode cX9_exchange 15 = .ok (.imul, 1) := by decide +kernel
theorem dX9_exchange_16 : decode cX9_exchange 16 = .ok (.iload_n 3, 1) := by decide +kernel
theorem dX9_exchange_17 : decode cX9_exchange 17 = .ok (.iadd, 1) := by decide +kernel
theorem dX9_exchange_18 : decode cX9_exchange 18 = .ok (.laload, 1) := by decide +kernel
theorem dX9_exchange_19 : decode cX9_exchange 19 = .ok (.lstore 4, 2) := by decide +kernel
theorem dX9_exchange_21 : decode cX9_exchange 21 = .ok (.aload_n 0, 1) := by decide +kernel
theorem dX9_exchange_22 : decode cX9_exchange 22 = .ok (.getfield 32, 3) := by decide +kernel
theorem dX9_exchange_25 : decode cX9_exchange 25 = .ok (.bipush 9, 2) := by decide +kernel
theorem dX9_exchange_27 : decode cX9_exchange 27 = .ok (.iload_n 1, 1) := by decide +kernel
theorem dX9_exchange_28 : decode cX9_exchange 28 = .ok (.imul, 1) := by decide +kernel
theorem dX9_exchange_29 : decode cX9_exchange 29 = .ok (.iload_n 3, 1) := by decide +kernel
theorem dX9_exchange_30 : decode cX9_exchange 30 = .ok (.iadd, 1) := by decide +kernel
theorem dX9_exchange_31 : decode cX9_exchange 31 = .ok (.aload_n 0, 1) := by decide +kernel
theorem dX9_exchange_32 : decode cX9_exchange 32 = .ok (.getfield 32, 3) := by decide +kernel
theorem dX9_exchange_35 : decode cX9_exchange 35 = .ok (.bipush 9, 2) := by decide +kernel
theorem dX9_exchange_37 : decode cX9_exchange 37 = .ok (.iload_n 2, 1) := by decide +kernel
theorem dX9_exchange_38 : decode cX9_exchange 38 = .ok (.imul, 1) := by decide +kernel
theorem dX9_exchange_39 : decode cX9_exchange 39 = .ok (.iload_n 3, 1) := by decide +kernel
theorem dX9_exchange_40 : decode cX9_exchange 40 = .ok (.iadd, 1) := by decide +kernel
theorem dX9_exchange_41 : decode cX9_exchange 41 = .ok (.laload, 1) := by decide +kernel
theorem dX9_exchange_42 : decode cX9_exchange 42 = .ok (.lastore, 1) := by decide +kernel
theorem dX9_exchange_43 : decode cX9_exchange 43 = .ok (.aload_n 0, 1) := by decide +kernel
theorem dX9_exchange_44 : decode cX9_exchange 44 = .ok (.getfield 32, 3) := by decide +kernel
theorem dX9_exchange_47 : decode cX9_exchange 47 = .ok (.bipush 9, 2) := by decide +kernel
theorem dX9_exchange_49 : decode cX9_exchange 49 = .ok (.iload_n 2, 1) := by decide +kernel
theorem dX9_exchange_50 : decode cX9_exchange 50 = .ok (.imul, 1) := by decide +kernel
theorem dX9_exchange_51 : decode cX9_exchange 51 = .ok (.iload_n 3, 1) := by decide +kernel
theorem dX9_exchange_52 : decode cX9_exchange 52 = .ok (.iadd, 1) := by decide +kernel
theorem dX9_exchange_53 : decode cX9_exchange 53 = .ok (.lload 4, 2) := by decide +kernel
theorem dX9_exchange_55 : decode cX9_exchange 55 = .ok (.lastore, 1) := by decide +kernel
theorem dX9_exchange_56 : decode cX9_exchange 56 = .ok (.iinc 3 1, 3) := by decide +kernel
theorem dX9_exchange_59 : decode cX9_exchange 59 = .ok (.goto (-57), 3) := by decide +kernel
theorem dX9_exchange_62 : decode cX9_exchange 62 = .ok (.return_, 1) := by decide +kernel
theorem dX9_eliminate_0 : decode cX9_eliminate 0 = .ok (.aload_n 0, 1) := by decide +kernel
theorem dX9_eliminate_1 : decode cX9_eliminate 1 = .ok (.invokevirtual 164, 3) := by decide +kernel
theorem dX9_eliminate_4 : decode cX9_eliminate 4 = .ok (.istore 4, 2) := by decide +kernel
theorem dX9_eliminate_6 : decode cX9_eliminate 6 = .ok (.iconst 0, 1) := by decide +kernel
theorem dX9_eliminate_7 : decode cX9_eliminate 7 = .ok (.istore 5, 2) := by decide +kernel
theorem dX9_eliminate_9 : decode cX9_eliminate 9 = .ok (.iload 5, 2) := by decide +kernel
theorem dX9_eliminate_11 : decode cX9_eliminate 11 = .ok (.iload 4, 2) := by decide +kernel
theorem dX9_eliminate_13 : decode cX9_eliminate 13 = .ok (.if_icmp .ge 101, 3) := by decide +kernel
theorem dX9_eliminate_16 : decode cX9_eliminate 16 = .ok (.aload_n 0, 1) := by decide +kernel
theorem dX9_eliminate_17 : decode cX9_eliminate 17 = .ok (.getfield 32, 3) := by decide +kernel
theorem dX9_eliminate_20 : decode cX9_eliminate 20 = .ok (.bipush 9, 2) := by decide +kernel
theorem dX9_eliminate_22 : decode cX9_eliminate 22 = .ok (.iload 5, 2) := by decide +kernel
theorem dX9_eliminate_24 : decode cX9_eliminate 24 = .ok (.imul, 1) := by decide +kernel
theorem dX9_eliminate_25 : decode cX9_eliminate 25 = .ok (.iload_n 1, 1) := by decide +kernel
theorem dX9_eliminate_26 : decode cX9_eliminate 26 = .ok (.iadd, 1) := by decide +kernel
theorem dX9_eliminate_27 : decode cX9_eliminate 27 = .ok (.laload, 1) := by decide +kernel
theorem dX9_eliminate_28 : decode cX9_eliminate 28 = .ok (.lstore 6, 2) := by decide +kernel
theorem dX9_eliminate_30 : decode cX9_eliminate 30 = .ok (.iconst 0, 1) := by decide +kernel
theorem dX9_eliminate_31 : decode cX9_eliminate 31 = .ok (.istore 8, 2) := by decide +kernel
theorem dX9_eliminate_33 : decode cX9_eliminate 33 = .ok (.iload 8, 2) := by decide +kernel
theorem dX9_eliminate_35 : decode cX9_eliminate 35 = .ok (.iload 4, 2) := by decide +kernel
theorem dX9_eliminate_37 : decode cX9_eliminate 37 = .ok (.if_icmp .gt 71, 3) := by decide +kernel
theorem dX9_eliminate_40 : decode cX9_eliminate 40 = .ok (.iload 5, 2) := by decide +kernel
theorem dX9_eliminate_42 : decode cX9_eliminate 42 = .ok (.iload_n 1, 1) := by decide +kernel
theorem dX9_eliminate_43 : decode cX9_eliminate 43 = .ok (.if_icmp .eq 65, 3) := by decide +kernel
theorem dX9_eliminate_46 : decode cX9_eliminate 46 = .ok (.aload_n 0, 1) := by decide +kernel
theorem dX9_eliminate_47 : decode cX9_eliminate 47 = .ok (.getfield 32, 3) := by decide +kernel
theorem dX9_eliminate_50 : decode cX9_eliminate 50 = .ok (.bipush 9, 2) := by decide +kernel
theorem dX9_eliminate_52 : decode cX9_eliminate 52 = .ok (.iload 5, 2) := by decide +kernel
theorem dX9_eliminate_54 : decode cX9_eliminate 54 = .ok (.imul, 1) := by decide +kernel
theorem dX9_eliminate_55 : decode cX9_eliminate 55 = .ok (.iload 8, 2) := by decide +kernel
theorem dX9_eliminate_57 : decode cX9_eliminate 57 = .ok (.iadd, 1) := by decide +kernel
theorem dX9_eliminate_58 : decode cX9_eliminate 58 = .ok (.aload_n 0, 1) := by decide +kernel
theorem dX9_eliminate_59 : decode cX9_eliminate 59 = .ok (.getfield 32, 3) := by decide +kernel
theorem dX9_eliminate_62 : decode cX9_eliminate 62 = .ok (.bipush 9, 2) := by decide +kernel
theorem dX9_eliminate_64 : decode cX9_eliminate 64 = .ok (.iload_n 1, 1) := by decide +kernel
theorem dX9_eliminate_65 : decode cX9_eliminate 65 = .ok (.imul, 1) := by decide +kernel
theorem dX9_eliminate_66 : decode cX9_eliminate 66 = .ok (.iload_n 1, 1) := by decide +kernel
theorem dX9_eliminate_67 : decode cX9_eliminate 67 = .ok (.iadd, 1) := by decide +kernel
theorem dX9_eliminate_68 : decode cX9_eliminate 68 = .ok (.laload, 1) := by decide +kernel
theorem dX9_eliminate_69 : decode cX9_eliminate 69 = .ok (.aload_n 0, 1) := by decide +kernel
theorem dX9_eliminate_70 : decode cX9_eliminate 70 = .ok (.getfield 32, 3) := by decide +kernel
theorem dX9_eliminate_73 : decode cX9_eliminate 73 = .ok (.bipush 9, 2) := by decide +kernel
theorem dX9_eliminate_75 : decode cX9_eliminate 75 = .ok (.iload 5, 2) := by decide +kernel
theorem dX9_eliminate_77 : decode cX9_eliminate 77 = .ok (.imul, 1) := by decide +kernel
theorem dX9_eliminate_78 : decode cX9_eliminate 78 = .ok (.iload 8, 2) := by decide +kernel
theorem dX9_eliminate_80 : decode cX9_eliminate 80 = .ok (.iadd, 1) := by decide +kernel
theorem dX9_eliminate_81 : decode cX9_eliminate 81 = .ok (.laload, 1) := by decide +kernel
theorem dX9_eliminate_82 : decode cX9_eliminate 82 = .ok (.lmul, 1) := by decide +kernel
theorem dX9_eliminate_83 : decode cX9_eliminate 83 = .ok (.lload 6, 2) := by decide +kernel
theorem dX9_eliminate_85 : decode cX9_eliminate 85 = .ok (.aload_n 0, 1) := by decide +kernel
theorem dX9_eliminate_86 : decode cX9_eliminate 86 = .ok (.getfield 32, 3) := by decide +kernel
theorem dX9_eliminate_89 : decode cX9_eliminate 89 = .ok (.bipush 9, 2) := by decide +kernel
theorem dX9_eliminate_91 : decode cX9_eliminate 91 = .ok (.iload_n 1, 1) := by decide +kernel
theorem dX9_eliminate_92 : decode cX9_eliminate 92 = .ok (.imul, 1) := by decide +kernel
theorem dX9_eliminate_93 : decode cX9_eliminate 93 = .ok (.iload 8, 2) := by decide +kernel
theorem dX9_eliminate_95 : decode cX9_eliminate 95 = .ok (.iadd, 1) := by decide +kernel
theorem dX9_eliminate_96 : decode cX9_eliminate 96 = .ok (.laload, 1) := by decide +kernel
theorem dX9_eliminate_97 : decode cX9_eliminate 97 = .ok (.lmul, 1) := by decide +kernel
theorem dX9_eliminate_98 : decode cX9_eliminate 98 = .ok (.lsub, 1) := by decide +kernel
theorem dX9_eliminate_99 : decode cX9_eliminate 99 = .ok (.lload_n 2, 1) := by decide +kernel
theorem dX9_eliminate_100 : decode cX9_eliminate 100 = .ok (.ldiv, 1) := by decide +kernel
theorem dX9_eliminate_101 : decode cX9_eliminate 101 = .ok (.lastore, 1) := by decide +kernel
theorem dX9_eliminate_102 : decode cX9_eliminate 102 = .ok (.iinc 8 1, 3) := by decide +kernel
theorem dX9_eliminate_105 : decode cX9_eliminate 105 = .ok (.goto (-72), 3) := by decide +kernel
theorem dX9_eliminate_108 : decode cX9_eliminate 108 = .ok (.iinc 5 1, 3) := by decide +kernel
theorem dX9_eliminate_111 : decode cX9_eliminate 111 = .ok (.goto (-102), 3) := by decide +kernel
theorem dX9_eliminate_114 : decode cX9_eliminate 114 = .ok (.return_, 1) := by decide +kernel
theorem dX9_solve_0 : decode cX9_solve 0 = .ok (.aload_n 0, 1) := by decide +kernel
theorem dX9_solve_1 : decode cX9_solve 1 = .ok (.invokevirtual 164, 3) := by decide +kernel
theorem dX9_solve_4 : decode cX9_solve 4 = .ok (.istore_n 1, 1) := by decide +kernel
theorem dX9_solve_5 : decode cX9_solve 5 = .ok (.lconst 1, 1) := by decide +kernel
theorem dX9_solve_6 : decode cX9_solve 6 = .ok (.lstore_n 2, 1) := by decide +kernel
theorem dX9_solve_7 : decode cX9_solve 7 = .ok (.iconst 0, 1) := by decide +kernel
theorem dX9_solve_8 : decode cX9_solve 8 = .ok (.istore 4, 2) := by decide +kernel
theorem dX9_solve_10 : decode cX9_solve 10 = .ok (.iload 4, 2) := by decide +kernel
theorem dX9_solve_12 : decode cX9_solve 12 = .ok (.iload_n 1, 1) := by decide +kernel
theorem dX9_solve_13 : decode cX9_solve 13 = .ok (.if_icmp .ge 66, 3) := by decide +kernel
theorem dX9_solve_16 : decode cX9_solve 16 = .ok (.iload 4, 2) := by decide +kernel
theorem dX9_solve_18 : decode cX9_solve 18 = .ok (.istore 5, 2) := by decide +kernel
theorem dX9_solve_20 : decode cX9_solve 20 = .ok (.aload_n 0, 1) := by decide +kernel
theorem dX9_solve_21 : decode cX9_solve 21 = .ok (.getfield 32, 3) := by decide +kernel
theorem dX9_solve_24 : decode cX9_solve 24 = .ok (.bipush 9, 2) := by decide +kernel
theorem dX9_solve_26 : decode cX9_solve 26 = .ok (.iload 5, 2) := by decide +kernel
theorem dX9_solve_28 : decode cX9_solve 28 = .ok (.imul, 1) := by decide +kernel
theorem dX9_solve_29 : decode cX9_solve 29 = .ok (.iload 4, 2) := by decide +kernel
theorem dX9_solve_31 : decode cX9_solve 31 = .ok (.iadd, 1) := by decide +kernel
theorem dX9_solve_32 : decode cX9_solve 32 = .ok (.laload, 1) := by decide +kernel
theorem dX9_solve_33 : decode cX9_solve 33 = .ok (.lconst 0, 1) := by decide +kernel
theorem dX9_solve_34 : decode cX9_solve 34 = .ok (.lcmp, 1) := by decide +kernel
theorem dX9_solve_35 : decode cX9_solve 35 = .ok (.ifCond .ne 9, 3) := by decide +kernel
theorem dX9_solve_38 : decode cX9_solve 38 = .ok (.iinc 5 1, 3) := by decide +kernel
theorem dX9_solve_41 : decode cX9_solve 41 = .ok (.goto (-21), 3) := by decide +kernel
theorem dX9_solve_44 : decode cX9_solve 44 = .ok (.aload_n 0, 1) := by decide +kernel
theorem dX9_solve_45 : decode cX9_solve 45 = .ok (.iload 4, 2) := by decide +kernel
theorem dX9_solve_47 : decode cX9_solve 47 = .ok (.iload 5, 2) := by decide +kernel
theorem dX9_solve_49 : decode cX9_solve 49 = .ok (.invokevirtual 167, 3) := by decide +kernel
theorem dX9_solve_52 : decode cX9_solve 52 = .ok (.aload_n 0, 1) := by decide +kernel
theorem dX9_solve_53 : decode cX9_solve 53 = .ok (.iload 4, 2) := by decide +kernel
theorem dX9_solve_55 : decode cX9_solve 55 = .ok (.lload_n 2, 1) := by decide +kernel
theorem dX9_solve_56 : decode cX9_solve 56 = .ok (.invokevirtual 171, 3) := by decide +kernel
theorem dX9_solve_59 : decode cX9_solve 59 = .ok (.aload_n 0, 1) := by decide +kernel
theorem dX9_solve_60 : decode cX9_solve 60 = .ok (.getfield 32, 3) := by decide +kernel
theorem dX9_solve_63 : decode cX9_solve 63 = .ok (.bipush 9, 2) := by decide +kernel
theorem dX9_solve_65 : decode cX9_solve 65 = .ok (.iload 4, 2) := by decide +kernel
theorem dX9_solve_67 : decode cX9_solve 67 = .ok (.imul, 1) := by decide +kernel
theorem dX9_solve_68 : decode cX9_solve 68 = .ok (.iload 4, 2) := by decide +kernel
theorem dX9_solve_70 : decode cX9_solve 70 = .ok (.iadd, 1) := by decide +kernel
theorem dX9_solve_71 : decode cX9_solve 71 = .ok (.laload, 1) := by decide +kernel
theorem dX9_solve_72 : decode cX9_solve 72 = .ok (.lstore_n 2, 1) := by decide +kernel
theorem dX9_solve_73 : decode cX9_solve 73 = .ok (.iinc 4 1, 3) := by decide +kernel
theorem dX9_solve_76 : decode cX9_solve 76 = .ok (.goto (-66), 3) := by decide +kernel
theorem dX9_solve_79 : decode cX9_solve 79 = .ok (.return_, 1) := by decide +kernel
theorem dX9_middle_0 : decode cX9_middle 0 = .ok (.aload_n 0, 1) := by decide +kernel
theorem dX9_middle_1 : decode cX9_middle 1 = .ok (.invokevirtual 164, 3) := by decide +kernel
theorem dX9_middle_4 : decode cX9_middle 4 = .ok (.istore_n 3, 1) := by decide +kernel
theorem dX9_middle_5 : decode cX9_middle 5 = .ok (.lconst 0, 1) := by decide +kernel
theorem dX9_middle_6 : decode cX9_middle 6 = .ok (.lstore 4, 2) := by decide +kernel
theorem dX9_middle_8 : decode cX9_middle 8 = .ok (.iconst 0, 1) := by decide +kernel
theorem dX9_middle_9 : decode cX9_middle 9 = .ok (.istore 6, 2) := by decide +kernel
theorem dX9_middle_11 : decode cX9_middle 11 = .ok (.iload 6, 2) := by decide +kernel
theorem dX9_middle_13 : decode cX9_middle 13 = .ok (.iload_n 3, 1) := by decide +kernel
theorem dX9_middle_14 : decode cX9_middle 14 = .ok (.if_icmp .ge 26, 3) := by decide +kernel
theorem dX9_middle_17 : decode cX9_middle 17 = .ok (.lload 4, 2) := by decide +kernel
theorem dX9_middle_19 : decode cX9_middle 19 = .ok (.aload_n 0, 1) := by decide +kernel
theorem dX9_middle_20 : decode cX9_middle 20 = .ok (.getfield 32, 3) := by decide +kernel
theorem dX9_middle_23 : decode cX9_middle 23 = .ok (.bipush 9, 2) := by decide +kernel
theorem dX9_middle_25 : decode cX9_middle 25 = .ok (.iload 6, 2) := by decide +kernel
theorem dX9_middle_27 : decode cX9_middle 27 = .ok (.imul, 1) := by decide +kernel
theorem dX9_middle_28 : decode cX9_middle 28 = .ok (.iload_n 3, 1) := by decide +kernel
theorem dX9_middle_29 : decode cX9_middle 29 = .ok (.iadd, 1) := by decide +kernel
theorem dX9_middle_30 : decode cX9_middle 30 = .ok (.laload, 1) := by decide +kernel
theorem dX9_middle_31 : decode cX9_middle 31 = .ok (.ladd, 1) := by decide +kernel
theorem dX9_middle_32 : decode cX9_middle 32 = .ok (.lstore 4, 2) := by decide +kernel
theorem dX9_middle_34 : decode cX9_middle 34 = .ok (.iinc 6 1, 3) := by decide +kernel
theorem dX9_middle_37 : decode cX9_middle 37 = .ok (.goto (-26), 3) := by decide +kernel
theorem dX9_middle_40 : decode cX9_middle 40 = .ok (.aload_n 0, 1) := by decide +kernel
theorem dX9_middle_41 : decode cX9_middle 41 = .ok (.getfield 32, 3) := by decide +kernel
theorem dX9_middle_44 : decode cX9_middle 44 = .ok (.iconst 0, 1) := by decide +kernel
theorem dX9_middle_45 : decode cX9_middle 45 = .ok (.laload, 1) := by decide +kernel
theorem dX9_middle_46 : decode cX9_middle 46 = .ok (.iload_n 3, 1) := by decide +kernel
theorem dX9_middle_47 : decode cX9_middle 47 = .ok (.i2l, 1) := by decide +kernel
theorem dX9_middle_48 : decode cX9_middle 48 = .ok (.lmul, 1) := by decide +kernel
theorem dX9_middle_49 : decode cX9_middle 49 = .ok (.lstore 6, 2) := by decide +kernel
theorem dX9_middle_51 : decode cX9_middle 51 = .ok (.lload 6, 2) := by decide +kernel
theorem dX9_middle_53 : decode cX9_middle 53 = .ok (.lconst 0, 1) := by decide +kernel
theorem dX9_middle_54 : decode cX9_middle 54 = .ok (.lcmp, 1) := by decide +kernel
theorem dX9_middle_55 : decode cX9_middle 55 = .ok (.ifCond .ge 13, 3) := by decide +kernel
theorem dX9_middle_58 : decode cX9_middle 58 = .ok (.lload 4, 2) := by decide +kernel
theorem dX9_middle_60 : decode cX9_middle 60 = .ok (.lneg, 1) := by decide +kernel
theorem dX9_middle_61 : decode cX9_middle 61 = .ok (.lstore 4, 2) := by decide +kernel
theorem dX9_middle_63 : decode cX9_middle 63 = .ok (.lload 6, 2) := by decide +kernel
theorem dX9_middle_65 : decode cX9_middle 65 = .ok (.lneg, 1) := by decide +kernel
theorem dX9_middle_66 : decode cX9_middle 66 = .ok (.lstore 6, 2) := by decide +kernel
theorem dX9_middle_68 : decode cX9_middle 68 = .ok (.lload_n 1, 1) := by decide +kernel
theorem dX9_middle_69 : decode cX9_middle 69 = .ok (.lload 4, 2) := by decide +kernel
theorem dX9_middle_71 : decode cX9_middle 71 = .ok (.lmul, 1) := by decide +kernel
theorem dX9_middle_72 : decode cX9_middle 72 = .ok (.lload 6, 2) := by decide +kernel
theorem dX9_middle_74 : decode cX9_middle 74 = .ok (.ldiv, 1) := by decide +kernel
theorem dX9_middle_75 : decode cX9_middle 75 = .ok (.lreturn, 1) := by decide +kernel
theorem dX9_waitOf_0 : decode cX9_waitOf 0 = .ok (.aload_n 0, 1) := by decide +kernel
theorem dX9_waitOf_1 : decode cX9_waitOf 1 = .ok (.invokevirtual 164, 3) := by decide +kernel
theorem dX9_waitOf_4 : decode cX9_waitOf 4 = .ok (.istore_n 2, 1) := by decide +kernel
theorem dX9_waitOf_5 : decode cX9_waitOf 5 = .ok (.aload_n 0, 1) := by decide +kernel
theorem dX9_waitOf_6 : decode cX9_waitOf 6 = .ok (.invokevirtual 175, 3) := by decide +kernel
theorem dX9_waitOf_9 : decode cX9_waitOf 9 = .ok (.iconst 0, 1) := by decide +kernel
theorem dX9_waitOf_10 : decode cX9_waitOf 10 = .ok (.istore_n 3, 1) := by decide +kernel
theorem dX9_waitOf_11 : decode cX9_waitOf 11 = .ok (.iload_n 3, 1) := by decide +kernel
theorem dX9_waitOf_12 : decode cX9_waitOf 12 = .ok (.iload_n 2, 1) := by decide +kernel
theorem dX9_waitOf_13 : decode cX9_waitOf 13 = .ok (.if_icmp .ge 94, 3) := by decide +kernel
theorem dX9_waitOf_16 : decode cX9_waitOf 16 = .ok (.aload_n 0, 1) := by decide +kernel
theorem dX9_waitOf_17 : decode cX9_waitOf 17 = .ok (.getfield 32, 3) := by decide +kernel
theorem dX9_waitOf_20 : decode cX9_waitOf 20 = .ok (.bipush 9, 2) := by decide +kernel
theorem dX9_waitOf_22 : decode cX9_waitOf 22 = .ok (.iload_n 3, 1) := by decide +kernel
theorem dX9_waitOf_23 : decode cX9_waitOf 23 = .ok (.imul, 1) := by decide +kernel
theorem dX9_waitOf_24 : decode cX9_waitOf 24 = .ok (.iload_n 3, 1) := by decide +kernel
theorem dX9_waitOf_25 : decode cX9_waitOf 25 = .ok (.iadd, 1) := by decide +kernel
theorem dX9_waitOf_26 : decode cX9_waitOf 26 = .ok (.dup2, 1) := by decide +kernel
theorem dX9_waitOf_27 : decode cX9_waitOf 27 = .ok (.laload, 1) := by decide +kernel
theorem dX9_waitOf_28 : decode cX9_waitOf 28 = .ok (.ldc2_w 178, 3) := by decide +kernel
theorem dX9_waitOf_31 : decode cX9_waitOf 31 = .ok (.ladd, 1) := by decide +kernel
theorem dX9_waitOf_32 : decode cX9_waitOf 32 = .ok (.lastore, 1) := by decide +kernel
theorem dX9_waitOf_33 : decode cX9_waitOf 33 = .ok (.aload_n 0, 1) := by decide +kernel
theorem dX9_waitOf_34 : decode cX9_waitOf 34 = .ok (.getfield 32, 3) := by decide +kernel
theorem dX9_waitOf_37 : decode cX9_waitOf 37 = .ok (.bipush 9, 2) := by decide +kernel
theorem dX9_waitOf_39 : decode cX9_waitOf 39 = .ok (.iload_n 3, 1) := by decide +kernel
theorem dX9_waitOf_40 : decode cX9_waitOf 40 = .ok (.imul, 1) := by decide +kernel
theorem dX9_waitOf_41 : decode cX9_waitOf 41 = .ok (.iload_n 2, 1) := by decide +kernel
theorem dX9_waitOf_42 : decode cX9_waitOf 42 = .ok (.iadd, 1) := by decide +kernel
theorem dX9_waitOf_43 : decode cX9_waitOf 43 = .ok (.ldc2_w 178, 3) := by decide +kernel
theorem dX9_waitOf_46 : decode cX9_waitOf 46 = .ok (.lastore, 1) := by decide +kernel
theorem dX9_waitOf_47 : decode cX9_waitOf 47 = .ok (.iconst 0, 1) := by decide +kernel
theorem dX9_waitOf_48 : decode cX9_waitOf 48 = .ok (.istore 4, 2) := by decide +kernel
theorem dX9_waitOf_50 : decode cX9_waitOf 50 = .ok (.iload 4, 2) := by decide +kernel
theorem dX9_waitOf_52 : decode cX9_waitOf 52 = .ok (.iconst 2, 1) := by decide +kernel
theorem dX9_waitOf_53 : decode cX9_waitOf 53 = .ok (.if_icmp .ge 48, 3) := by decide +kernel
theorem dX9_waitOf_56 : decode cX9_waitOf 56 = .ok (.iconst 2, 1) := by decide +kernel
theorem dX9_waitOf_57 : decode cX9_waitOf 57 = .ok (.iload_n 3, 1) := by decide +kernel
theorem dX9_waitOf_58 : decode cX9_waitOf 58 = .ok (.imul, 1) := by decide +kernel
theorem dX9_waitOf_59 : decode cX9_waitOf 59 = .ok (.iload 4, 2) := by decide +kernel
theorem dX9_waitOf_61 : decode cX9_waitOf 61 = .ok (.iadd, 1) := by decide +kernel
theorem dX9_waitOf_62 : decode cX9_waitOf 62 = .ok (.istore 5, 2) := by decide +kernel
theorem dX9_waitOf_64 : decode cX9_waitOf 64 = .ok (.aload_n 0, 1) := by decide +kernel
theorem dX9_waitOf_65 : decode cX9_waitOf 65 = .ok (.getfield 32, 3) := by decide +kernel
theorem dX9_waitOf_68 : decode cX9_waitOf 68 = .ok (.bipush 9, 2) := by decide +kernel
theorem dX9_waitOf_70 : decode cX9_waitOf 70 = .ok (.iload_n 3, 1) := by decide +kernel
theorem dX9_waitOf_71 : decode cX9_waitOf 71 = .ok (.imul, 1) := by decide +kernel
theorem dX9_waitOf_72 : decode cX9_waitOf 72 = .ok (.iload 5, 2) := by decide +kernel
theorem dX9_waitOf_74 : decode cX9_waitOf 74 = .ok (.iload_n 2, 1) := by decide +kernel
theorem dX9_waitOf_75 : decode cX9_waitOf 75 = .ok (.irem, 1) := by decide +kernel
theorem dX9_waitOf_76 : decode cX9_waitOf 76 = .ok (.iadd, 1) := by decide +kernel
theorem dX9_waitOf_77 : decode cX9_waitOf 77 = .ok (.dup2, 1) := by decide +kernel
theorem dX9_waitOf_78 : decode cX9_waitOf 78 = .ok (.laload, 1) := by decide +kernel
theorem dX9_waitOf_79 : decode cX9_waitOf 79 = .ok (.iload_n 1, 1) := by decide +kernel
theorem dX9_waitOf_80 : decode cX9_waitOf 80 = .ok (.iload 5, 2) := by decide +kernel
theorem dX9_waitOf_82 : decode cX9_waitOf 82 = .ok (.invokestatic 157, 3) := by decide +kernel
theorem dX9_waitOf_85 : decode cX9_waitOf 85 = .ok (.ifCond .eq 7, 3) := by decide +kernel
theorem dX9_waitOf_88 : decode cX9_waitOf 88 = .ok (.lconst 0, 1) := by decide +kernel
theorem dX9_waitOf_89 : decode cX9_waitOf 89 = .ok (.goto 4, 3) := by decide +kernel
theorem dX9_waitOf_92 : decode cX9_waitOf 92 = .ok (.lconst 1, 1) := by decide +kernel
theorem dX9_waitOf_93 : decode cX9_waitOf 93 = .ok (.lsub, 1) := by decide +kernel
theorem dX9_waitOf_94 : decode cX9_waitOf 94 = .ok (.lastore, 1) := by decide +kernel
theorem dX9_waitOf_95 : decode cX9_waitOf 95 = .ok (.iinc 4 1, 3) := by decide +kernel
theorem dX9_waitOf_98 : decode cX9_waitOf 98 = .ok (.goto (-48), 3) := by decide +kernel
theorem dX9_waitOf_101 : decode cX9_waitOf 101 = .ok (.iinc 3 1, 3) := by decide +kernel
theorem dX9_waitOf_104 : decode cX9_waitOf 104 = .ok (.goto (-93), 3) := by decide +kernel
theorem dX9_waitOf_107 : decode cX9_waitOf 107 = .ok (.aload_n 0, 1) := by decide +kernel
theorem dX9_waitOf_108 : decode cX9_waitOf 108 = .ok (.invokevirtual 180, 3) := by decide +kernel
theorem dX9_waitOf_111 : decode cX9_waitOf 111 = .ok (.sipush 1000, 3) := by decide +kernel
theorem dX9_waitOf_114 : decode cX9_waitOf 114 = .ok (.aload_n 0, 1) := by decide +kernel
theorem dX9_waitOf_115 : decode cX9_waitOf 115 = .ok (.getfield 98, 3) := by decide +kernel
theorem dX9_waitOf_118 : decode cX9_waitOf 118 = .ok (.iconst 1, 1) := by decide +kernel
theorem dX9_waitOf_119 : decode cX9_waitOf 119 = .ok (.isub, 1) := by decide +kernel
theorem dX9_waitOf_120 : decode cX9_waitOf 120 = .ok (.imul, 1) := by decide +kernel
theorem dX9_waitOf_121 : decode cX9_waitOf 121 = .ok (.aload_n 0, 1) := by decide +kernel
theorem dX9_waitOf_122 : decode cX9_waitOf 122 = .ok (.ldc2_w 183, 3) := by decide +kernel
theorem dX9_waitOf_125 : decode cX9_waitOf 125 = .ok (.invokevirtual 185, 3) := by decide +kernel
theorem dX9_waitOf_128 : decode cX9_waitOf 128 = .ok (.l2i, 1) := by decide +kernel
theorem dX9_waitOf_129 : decode cX9_waitOf 129 = .ok (.iadd, 1) := by decide +kernel
theorem dX9_waitOf_130 : decode cX9_waitOf 130 = .ok (.ireturn, 1) := by decide +kernel
theorem dX9_duelOf_0 : decode cX9_duelOf 0 = .ok (.aload_n 0, 1) := by decide +kernel
theorem dX9_duelOf_1 : decode cX9_duelOf 1 = .ok (.invokevirtual 164, 3) := by decide +kernel
theorem dX9_duelOf_4 : decode cX9_duelOf 4 = .ok (.istore_n 3, 1) := by decide +kernel
theorem dX9_duelOf_5 : decode cX9_duelOf 5 = .ok (.aload_n 0, 1) := by decide +kernel
theorem dX9_duelOf_6 : decode cX9_duelOf 6 = .ok (.invokevirtual 175, 3) := by decide +kernel
theorem dX9_duelOf_9 : decode cX9_duelOf 9 = .ok (.iconst 0, 1) := by decide +kernel
theorem dX9_duelOf_10 : decode cX9_duelOf 10 = .ok (.istore 4, 2) := by decide +kernel
theorem dX9_duelOf_12 : decode cX9_duelOf 12 = .ok (.iload 4, 2) := by decide +kernel
theorem dX9_duelOf_14 : decode cX9_duelOf 14 = .ok (.iload_n 3, 1) := by decide +kernel
theorem dX9_duelOf_15 : decode cX9_duelOf 15 = .ok (.if_icmp .ge 115, 3) := by decide +kernel
theorem dX9_duelOf_18 : decode cX9_duelOf 18 = .ok (.aload_n 0, 1) := by decide +kernel
theorem dX9_duelOf_19 : decode cX9_duelOf 19 = .ok (.getfield 32, 3) := by decide +kernel
theorem dX9_duelOf_22 : decode cX9_duelOf 22 = .ok (.bipush 9, 2) := by decide +kernel
theorem dX9_duelOf_24 : decode cX9_duelOf 24 = .ok (.iload 4, 2) := by decide +kernel
theorem dX9_duelOf_26 : decode cX9_duelOf 26 = .ok (.imul, 1) := by decide +kernel
theorem dX9_duelOf_27 : decode cX9_duelOf 27 = .ok (.iload 4, 2) := by decide +kernel
theorem dX9_duelOf_29 : decode cX9_duelOf 29 = .ok (.iadd, 1) := by decide +kernel
theorem dX9_duelOf_30 : decode cX9_duelOf 30 = .ok (.dup2, 1) := by decide +kernel
theorem dX9_duelOf_31 : decode cX9_duelOf 31 = .ok (.laload, 1) := by decide +kernel
theorem dX9_duelOf_32 : decode cX9_duelOf 32 = .ok (.ldc2_w 178, 3) := by decide +kernel
theorem dX9_duelOf_35 : decode cX9_duelOf 35 = .ok (.ladd, 1) := by decide +kernel
theorem dX9_duelOf_36 : decode cX9_duelOf 36 = .ok (.lastore, 1) := by decide +kernel
theorem dX9_duelOf_37 : decode cX9_duelOf 37 = .ok (.iconst 0, 1) := by decide +kernel
theorem dX9_duelOf_38 : decode cX9_duelOf 38 = .ok (.istore 5, 2) := by decide +kernel
theorem dX9_duelOf_40 : decode cX9_duelOf 40 = .ok (.iload 5, 2) := by decide +kernel
theorem dX9_duelOf_42 : decode cX9_duelOf 42 = .ok (.iconst 2, 1) := by decide +kernel
theorem dX9_duelOf_43 : decode cX9_duelOf 43 = .ok (.if_icmp .ge 81, 3) := by decide +kernel
theorem dX9_duelOf_46 : decode cX9_duelOf 46 = .ok (.iconst 2, 1) := by decide +kernel
theorem dX9_duelOf_47 : decode cX9_duelOf 47 = .ok (.iload 4, 2) := by decide +kernel
theorem dX9_duelOf_49 : decode cX9_duelOf 49 = .ok (.imul, 1) := by decide +kernel
theorem dX9_duelOf_50 : decode cX9_duelOf 50 = .ok (.iload 5, 2) := by decide +kernel
theorem dX9_duelOf_52 : decode cX9_duelOf 52 = .ok (.iadd, 1) := by decide +kernel
theorem dX9_duelOf_53 : decode cX9_duelOf 53 = .ok (.istore 6, 2) := by decide +kernel
theorem dX9_duelOf_55 : decode cX9_duelOf 55 = .ok (.aload_n 0, 1) := by decide +kernel
theorem dX9_duelOf_56 : decode cX9_duelOf 56 = .ok (.getfield 32, 3) := by decide +kernel
theorem dX9_duelOf_59 : decode cX9_duelOf 59 = .ok (.bipush 9, 2) := by decide +kernel
theorem dX9_duelOf_61 : decode cX9_duelOf 61 = .ok (.iload 4, 2) := by decide +kernel
theorem dX9_duelOf_63 : decode cX9_duelOf 63 = .ok (.imul, 1) := by decide +kernel
theorem dX9_duelOf_64 : decode cX9_duelOf 64 = .ok (.iload_n 3, 1) := by decide +kernel
theorem dX9_duelOf_65 : decode cX9_duelOf 65 = .ok (.iadd, 1) := by decide +kernel
theorem dX9_duelOf_66 : decode cX9_duelOf 66 = .ok (.dup2, 1) := by decide +kernel
theorem dX9_duelOf_67 : decode cX9_duelOf 67 = .ok (.laload, 1) := by decide +kernel
theorem dX9_duelOf_68 : decode cX9_duelOf 68 = .ok (.iload_n 1, 1) := by decide +kernel
theorem dX9_duelOf_69 : decode cX9_duelOf 69 = .ok (.iload 6, 2) := by decide +kernel
theorem dX9_duelOf_71 : decode cX9_duelOf 71 = .ok (.invokestatic 157, 3) := by decide +kernel
theorem dX9_duelOf_74 : decode cX9_duelOf 74 = .ok (.ifCond .eq 7, 3) := by decide +kernel
theorem dX9_duelOf_77 : decode cX9_duelOf 77 = .ok (.lconst 1, 1) := by decide +kernel
theorem dX9_duelOf_78 : decode cX9_duelOf 78 = .ok (.goto 4, 3) := by decide +kernel
theorem dX9_duelOf_81 : decode cX9_duelOf 81 = .ok (.lconst 0, 1) := by decide +kernel
theorem dX9_duelOf_82 : decode cX9_duelOf 82 = .ok (.ladd, 1) := by decide +kernel
theorem dX9_duelOf_83 : decode cX9_duelOf 83 = .ok (.lastore, 1) := by decide +kernel
theorem dX9_duelOf_84 : decode cX9_duelOf 84 = .ok (.aload_n 0, 1) := by decide +kernel
theorem dX9_duelOf_85 : decode cX9_duelOf 85 = .ok (.getfield 32, 3) := by decide +kernel
theorem dX9_duelOf_88 : decode cX9_duelOf 88 = .ok (.bipush 9, 2) := by decide +kernel
theorem dX9_duelOf_90 : decode cX9_duelOf 90 = .ok (.iload 4, 2) := by decide +kernel
theorem dX9_duelOf_92 : decode cX9_duelOf 92 = .ok (.imul, 1) := by decide +kernel
theorem dX9_duelOf_93 : decode cX9_duelOf 93 = .ok (.iload 6, 2) := by decide +kernel
theorem dX9_duelOf_95 : decode cX9_duelOf 95 = .ok (.iload_n 3, 1) := by decide +kernel
theorem dX9_duelOf_96 : decode cX9_duelOf 96 = .ok (.irem, 1) := by decide +kernel
theorem dX9_duelOf_97 : decode cX9_duelOf 97 = .ok (.iadd, 1) := by decide +kernel
theorem dX9_duelOf_98 : decode cX9_duelOf 98 = .ok (.dup2, 1) := by decide +kernel
theorem dX9_duelOf_99 : decode cX9_duelOf 99 = .ok (.laload, 1) := by decide +kernel
theorem dX9_duelOf_100 : decode cX9_duelOf 100 = .ok (.iload_n 1, 1) := by decide +kernel
theorem dX9_duelOf_101 : decode cX9_duelOf 101 = .ok (.iload_n 2, 1) := by decide +kernel
theorem dX9_duelOf_102 : decode cX9_duelOf 102 = .ok (.ior, 1) := by decide +kernel
theorem dX9_duelOf_103 : decode cX9_duelOf 103 = .ok (.iload 6, 2) := by decide +kernel
theorem dX9_duelOf_105 : decode cX9_duelOf 105 = .ok (.invokestatic 157, 3) := by decide +kernel
theorem dX9_duelOf_108 : decode cX9_duelOf 108 = .ok (.ifCond .eq 7, 3) := by decide +kernel
theorem dX9_duelOf_111 : decode cX9_duelOf 111 = .ok (.lconst 0, 1) := by decide +kernel
theorem dX9_duelOf_112 : decode cX9_duelOf 112 = .ok (.goto 4, 3) := by decide +kernel
theorem dX9_duelOf_115 : decode cX9_duelOf 115 = .ok (.lconst 1, 1) := by decide +kernel
theorem dX9_duelOf_116 : decode cX9_duelOf 116 = .ok (.lsub, 1) := by decide +kernel
theorem dX9_duelOf_117 : decode cX9_duelOf 117 = .ok (.lastore, 1) := by decide +kernel
theorem dX9_duelOf_118 : decode cX9_duelOf 118 = .ok (.iinc 5 1, 3) := by decide +kernel
theorem dX9_duelOf_121 : decode cX9_duelOf 121 = .ok (.goto (-81), 3) := by decide +kernel
theorem dX9_duelOf_124 : decode cX9_duelOf 124 = .ok (.iinc 4 1, 3) := by decide +kernel
theorem dX9_duelOf_127 : decode cX9_duelOf 127 = .ok (.goto (-115), 3) := by decide +kernel
theorem dX9_duelOf_130 : decode cX9_duelOf 130 = .ok (.aload_n 0, 1) := by decide +kernel
theorem dX9_duelOf_131 : decode cX9_duelOf 131 = .ok (.invokevirtual 180, 3) := by decide +kernel
theorem dX9_duelOf_134 : decode cX9_duelOf 134 = .ok (.aload_n 0, 1) := by decide +kernel
theorem dX9_duelOf_135 : decode cX9_duelOf 135 = .ok (.ldc2_w 189, 3) := by decide +kernel
theorem dX9_duelOf_138 : decode cX9_duelOf 138 = .ok (.invokevirtual 185, 3) := by decide +kernel
theorem dX9_duelOf_141 : decode cX9_duelOf 141 = .ok (.l2i, 1) := by decide +kernel
theorem dX9_duelOf_142 : decode cX9_duelOf 142 = .ok (.ireturn, 1) := by decide +kernel
theorem dX9_duelNow_0 : decode cX9_duelNow 0 = .ok (.aload_n 0, 1) := by decide +kernel
theorem dX9_duelNow_1 : decode cX9_duelNow 1 = .ok (.aload_n 0, 1) := by decide +kernel
theorem dX9_duelNow_2 : decode cX9_duelNow 2 = .ok (.iload_n 1, 1) := by decide +kernel
theorem dX9_duelNow_3 : decode cX9_duelNow 3 = .ok (.invokevirtual 132, 3) := by decide +kernel
theorem dX9_duelNow_6 : decode cX9_duelNow 6 = .ok (.aload_n 0, 1) := by decide +kernel
theorem dX9_duelNow_7 : decode cX9_duelNow 7 = .ok (.iload_n 2, 1) := by decide +kernel
theorem dX9_duelNow_8 : decode cX9_duelNow 8 = .ok (.invokevirtual 132, 3) := by decide +kernel
theorem dX9_duelNow_11 : decode cX9_duelNow 11 = .ok (.invokevirtual 191, 3) := by decide +kernel
theorem dX9_duelNow_14 : decode cX9_duelNow 14 = .ok (.ireturn, 1) := by decide +kernel
theorem dX9_duel_0 : decode cX9_duel 0 = .ok (.aload_n 0, 1) := by decide +kernel
theorem dX9_duel_1 : decode cX9_duel 1 = .ok (.iload_n 1, 1) := by decide +kernel
theorem dX9_duel_2 : decode cX9_duel 2 = .ok (.invokevirtual 147, 3) := by decide +kernel
theorem dX9_duel_5 : decode cX9_duel 5 = .ok (.ifCond .eq 25, 3) := by decide +kernel
theorem dX9_duel_8 : decode cX9_duel 8 = .ok (.aload_n 0, 1) := by decide +kernel
theorem dX9_duel_9 : decode cX9_duel 9 = .ok (.iload_n 2, 1) := by decide +kernel
theorem dX9_duel_10 : decode cX9_duel 10 = .ok (.invokevirtual 147, 3) := by decide +kernel
theorem dX9_duel_13 : decode cX9_duel 13 = .ok (.ifCond .eq 17, 3) := by decide +kernel
theorem dX9_duel_16 : decode cX9_duel 16 = .ok (.iload_n 1, 1) := by decide +kernel
theorem dX9_duel_17 : decode cX9_duel 17 = .ok (.iload_n 2, 1) := by decide +kernel
theorem dX9_duel_18 : decode cX9_duel 18 = .ok (.if_icmp .eq 12, 3) := by decide +kernel
theorem dX9_duel_21 : decode cX9_duel 21 = .ok (.aload_n 0, 1) := by decide +kernel
theorem dX9_duel_22 : decode cX9_duel 22 = .ok (.iload_n 1, 1) := by decide +kernel
theorem dX9_duel_23 : decode cX9_duel 23 = .ok (.iload_n 2, 1) := by decide +kernel
theorem dX9_duel_24 : decode cX9_duel 24 = .ok (.invokevirtual 194, 3) := by decide +kernel
theorem dX9_duel_27 : decode cX9_duel 27 = .ok (.goto 5, 3) := by decide +kernel
theorem dX9_duel_30 : decode cX9_duel 30 = .ok (.bipush (-101), 2) := by decide +kernel
theorem dX9_duel_32 : decode cX9_duel 32 = .ok (.ireturn, 1) := by decide +kernel
theorem dX9_answerNow_0 : decode cX9_answerNow 0 = .ok (.aload_n 0, 1) := by decide +kernel
theorem dX9_answerNow_1 : decode cX9_answerNow 1 = .ok (.iload_n 1, 1) := by decide +kernel
theorem dX9_answerNow_2 : decode cX9_answerNow 2 = .ok (.invokevirtual 132, 3) := by decide +kernel
theorem dX9_answerNow_5 : decode cX9_answerNow 5 = .ok (.istore_n 3, 1) := by decide +kernel
theorem dX9_answerNow_6 : decode cX9_answerNow 6 = .ok (.iconst (-1), 1) := by decide +kernel
theorem dX9_answerNow_7 : decode cX9_answerNow 7 = .ok (.istore 4, 2) := by decide +kernel
theorem dX9_answerNow_9 : decode cX9_answerNow 9 = .ok (.iconst (-1), 1) := by decide +kernel
theorem dX9_answerNow_10 : decode cX9_answerNow 10 = .ok (.istore 5, 2) := by decide +kernel
theorem dX9_answerNow_12 : decode cX9_answerNow 12 = .ok (.iconst 0, 1) := by decide +kernel
theorem dX9_answerNow_13 : decode cX9_answerNow 13 = .ok (.istore 6, 2) := by decide +kernel
theorem dX9_answerNow_15 : decode cX9_answerNow 15 = .ok (.iload 6, 2) := by decide +kernel
theorem dX9_answerNow_17 : decode cX9_answerNow 17 = .ok (.aload_n 0, 1) := by decide +kernel
theorem dX9_answerNow_18 : decode cX9_answerNow 18 = .ok (.invokevirtual 122, 3) := by decide +kernel
theorem dX9_answerNow_21 : decode cX9_answerNow 21 = .ok (.if_icmp .ge 65, 3) := by decide +kernel
theorem dX9_answerNow_24 : decode cX9_answerNow 24 = .ok (.iload_n 3, 1) := by decide +kernel
theorem dX9_answerNow_25 : decode cX9_answerNow 25 = .ok (.iload 6, 2) := by decide +kernel
theorem dX9_answerNow_27 : decode cX9_answerNow 27 = .ok (.invokestatic 157, 3) := by decide +kernel
theorem dX9_answerNow_30 : decode cX9_answerNow 30 = .ok (.ifCond .eq 7, 3) := by decide +kernel
theorem dX9_answerNow_33 : decode cX9_answerNow 33 = .ok (.iconst (-1), 1) := by decide +kernel
theorem dX9_answerNow_34 : decode cX9_answerNow 34 = .ok (.goto 12, 3) := by decide +kernel
theorem dX9_answerNow_37 : decode cX9_answerNow 37 = .ok (.aload_n 0, 1) := by decide +kernel
theorem dX9_answerNow_38 : decode cX9_answerNow 38 = .ok (.iconst 1, 1) := by decide +kernel
theorem dX9_answerNow_39 : decode cX9_answerNow 39 = .ok (.iload 6, 2) := by decide +kernel
theorem dX9_answerNow_41 : decode cX9_answerNow 41 = .ok (.ishl, 1) := by decide +kernel
theorem dX9_answerNow_42 : decode cX9_answerNow 42 = .ok (.iload_n 3, 1) := by decide +kernel
theorem dX9_answerNow_43 : decode cX9_answerNow 43 = .ok (.invokevirtual 191, 3) := by decide +kernel
theorem dX9_answerNow_46 : decode cX9_answerNow 46 = .ok (.istore 7, 2) := by decide +kernel
theorem dX9_answerNow_48 : decode cX9_answerNow 48 = .ok (.iload 7, 2) := by decide +kernel
theorem dX9_answerNow_50 : decode cX9_answerNow 50 = .ok (.iload 5, 2) := by decide +kernel
theorem dX9_answerNow_52 : decode cX9_answerNow 52 = .ok (.if_icmp .le 8, 3) := by decide +kernel
theorem dX9_answerNow_55 : decode cX9_answerNow 55 = .ok (.iload 6, 2) := by decide +kernel
theorem dX9_answerNow_57 : decode cX9_answerNow 57 = .ok (.goto 5, 3) := by decide +kernel
theorem dX9_answerNow_60 : decode cX9_answerNow 60 = .ok (.iload 4, 2) := by decide +kernel
theorem dX9_answerNow_62 : decode cX9_answerNow 62 = .ok (.istore 4, 2) := by decide +kernel
theorem dX9_answerNow_64 : decode cX9_answerNow 64 = .ok (.iload 7, 2) := by decide +kernel
theorem dX9_answerNow_66 : decode cX9_answerNow 66 = .ok (.iload 5, 2) := by decide +kernel
theorem dX9_answerNow_68 : decode cX9_answerNow 68 = .ok (.if_icmp .le 8, 3) := by decide +kernel
theorem dX9_answerNow_71 : decode cX9_answerNow 71 = .ok (.iload 7, 2) := by decide +kernel
theorem dX9_answerNow_73 : decode cX9_answerNow 73 = .ok (.goto 5, 3) := by decide +kernel
theorem dX9_answerNow_76 : decode cX9_answerNow 76 = .ok (.iload 5, 2) := by decide +kernel
theorem dX9_answerNow_78 : decode cX9_answerNow 78 = .ok (.istore 5, 2) := by decide +kernel
theorem dX9_answerNow_80 : decode cX9_answerNow 80 = .ok (.iinc 6 1, 3) := by decide +kernel
theorem dX9_answerNow_83 : decode cX9_answerNow 83 = .ok (.goto (-68), 3) := by decide +kernel
theorem dX9_answerNow_86 : decode cX9_answerNow 86 = .ok (.iload_n 2, 1) := by decide +kernel
theorem dX9_answerNow_87 : decode cX9_answerNow 87 = .ok (.ifCond .ne 8, 3) := by decide +kernel
theorem dX9_answerNow_90 : decode cX9_answerNow 90 = .ok (.iload 4, 2) := by decide +kernel
theorem dX9_answerNow_92 : decode cX9_answerNow 92 = .ok (.goto 5, 3) := by decide +kernel
theorem dX9_answerNow_95 : decode cX9_answerNow 95 = .ok (.iload 5, 2) := by decide +kernel
theorem dX9_answerNow_97 : decode cX9_answerNow 97 = .ok (.ireturn, 1) := by decide +kernel
theorem dX9_answer_0 : decode cX9_answer 0 = .ok (.aload_n 0, 1) := by decide +kernel
theorem dX9_answer_1 : decode cX9_answer 1 = .ok (.iload_n 1, 1) := by decide +kernel
theorem dX9_answer_2 : decode cX9_answer 2 = .ok (.invokevirtual 147, 3) := by decide +kernel
theorem dX9_answer_5 : decode cX9_answer 5 = .ok (.ifCond .ne 6, 3) := by decide +kernel
theorem dX9_answer_8 : decode cX9_answer 8 = .ok (.bipush (-101), 2) := by decide +kernel
theorem dX9_answer_10 : decode cX9_answer 10 = .ok (.ireturn, 1) := by decide +kernel
theorem dX9_answer_11 : decode cX9_answer 11 = .ok (.iload_n 2, 1) := by decide +kernel
theorem dX9_answer_12 : decode cX9_answer 12 = .ok (.iconst 0, 1) := by decide +kernel
theorem dX9_answer_13 : decode cX9_answer 13 = .ok (.iconst 1, 1) := by decide +kernel
theorem dX9_answer_14 : decode cX9_answer 14 = .ok (.invokestatic 66, 3) := by decide +kernel
theorem dX9_answer_17 : decode cX9_answer 17 = .ok (.ifCond .eq 12, 3) := by decide +kernel
theorem dX9_answer_20 : decode cX9_answer 20 = .ok (.aload_n 0, 1) := by decide +kernel
theorem dX9_answer_21 : decode cX9_answer 21 = .ok (.iload_n 1, 1) := by decide +kernel
theorem dX9_answer_22 : decode cX9_answer 22 = .ok (.iload_n 2, 1) := by decide +kernel
theorem dX9_answer_23 : decode cX9_answer 23 = .ok (.invokevirtual 197, 3) := by decide +kernel
theorem dX9_answer_26 : decode cX9_answer 26 = .ok (.goto 5, 3) := by decide +kernel
theorem dX9_answer_29 : decode cX9_answer 29 = .ok (.bipush (-102), 2) := by decide +kernel
theorem dX9_answer_31 : decode cX9_answer 31 = .ok (.ireturn, 1) := by decide +kernel
theorem dX9_mostAgainst_0 : decode cX9_mostAgainst 0 = .ok (.iconst 0, 1) := by decide +kernel
theorem dX9_mostAgainst_1 : decode cX9_mostAgainst 1 = .ok (.istore_n 2, 1) := by decide +kernel
theorem dX9_mostAgainst_2 : decode cX9_mostAgainst 2 = .ok (.iconst 0, 1) := by decide +kernel
theorem dX9_mostAgainst_3 : decode cX9_mostAgainst 3 = .ok (.istore_n 3, 1) := by decide +kernel
theorem dX9_mostAgainst_4 : decode cX9_mostAgainst 4 = .ok (.iload_n 3, 1) := by decide +kernel
theorem dX9_mostAgainst_5 : decode cX9_mostAgainst 5 = .ok (.aload_n 0, 1) := by decide +kernel
theorem dX9_mostAgainst_6 : decode cX9_mostAgainst 6 = .ok (.invokevirtual 122, 3) := by decide +kernel
theorem dX9_mostAgainst_9 : decode cX9_mostAgainst 9 = .ok (.if_icmp .ge 43, 3) := by decide +kernel
theorem dX9_mostAgainst_12 : decode cX9_mostAgainst 12 = .ok (.iload_n 3, 1) := by decide +kernel
theorem dX9_mostAgainst_13 : decode cX9_mostAgainst 13 = .ok (.iload_n 1, 1) := by decide +kernel
theorem dX9_mostAgainst_14 : decode cX9_mostAgainst 14 = .ok (.if_icmp .ne 7, 3) := by decide +kernel
theorem dX9_mostAgainst_17 : decode cX9_mostAgainst 17 = .ok (.iconst 0, 1) := by decide +kernel
theorem dX9_mostAgainst_18 : decode cX9_mostAgainst 18 = .ok (.goto 13, 3) := by decide +kernel
theorem dX9_mostAgainst_21 : decode cX9_mostAgainst 21 = .ok (.aload_n 0, 1) := by decide +kernel
theorem dX9_mostAgainst_22 : decode cX9_mostAgainst 22 = .ok (.iconst 1, 1) := by decide +kernel
theorem dX9_mostAgainst_23 : decode cX9_mostAgainst 23 = .ok (.iload_n 3, 1) := by decide +kernel
theorem dX9_mostAgainst_24 : decode cX9_mostAgainst 24 = .ok (.ishl, 1) := by decide +kernel
theorem dX9_mostAgainst_25 : decode cX9_mostAgainst 25 = .ok (.iconst 1, 1) := by decide +kernel
theorem dX9_mostAgainst_26 : decode cX9_mostAgainst 26 = .ok (.iload_n 1, 1) := by decide +kernel
theorem dX9_mostAgainst_27 : decode cX9_mostAgainst 27 = .ok (.ishl, 1) := by decide +kernel
theorem dX9_mostAgainst_28 : decode cX9_mostAgainst 28 = .ok (.invokevirtual 191, 3) := by decide +kernel
theorem dX9_mostAgainst_31 : decode cX9_mostAgainst 31 = .ok (.istore 4, 2) := by decide +kernel
theorem dX9_mostAgainst_33 : decode cX9_mostAgainst 33 = .ok (.iload 4, 2) := by decide +kernel
theorem dX9_mostAgainst_35 : decode cX9_mostAgainst 35 = .ok (.iload_n 2, 1) := by decide +kernel
theorem dX9_mostAgainst_36 : decode cX9_mostAgainst 36 = .ok (.if_icmp .le 8, 3) := by decide +kernel
theorem dX9_mostAgainst_39 : decode cX9_mostAgainst 39 = .ok (.iload 4, 2) := by decide +kernel
theorem dX9_mostAgainst_41 : decode cX9_mostAgainst 41 = .ok (.goto 4, 3) := by decide +kernel
theorem dX9_mostAgainst_44 : decode cX9_mostAgainst 44 = .ok (.iload_n 2, 1) := by decide +kernel
theorem dX9_mostAgainst_45 : decode cX9_mostAgainst 45 = .ok (.istore_n 2, 1) := by decide +kernel
theorem dX9_mostAgainst_46 : decode cX9_mostAgainst 46 = .ok (.iinc 3 1, 3) := by decide +kernel
theorem dX9_mostAgainst_49 : decode cX9_mostAgainst 49 = .ok (.goto (-45), 3) := by decide +kernel
theorem dX9_mostAgainst_52 : decode cX9_mostAgainst 52 = .ok (.iload_n 2, 1) := by decide +kernel
theorem dX9_mostAgainst_53 : decode cX9_mostAgainst 53 = .ok (.ireturn, 1) := by decide +kernel
theorem dX9_openNow_0 : decode cX9_openNow 0 = .ok (.iconst (-1), 1) := by decide +kernel
theorem dX9_openNow_1 : decode cX9_openNow 1 = .ok (.istore_n 2, 1) := by decide +kernel
theorem dX9_openNow_2 : decode cX9_openNow 2 = .ok (.ldc 200, 2) := by decide +kernel
theorem dX9_openNow_4 : decode cX9_openNow 4 = .ok (.istore_n 3, 1) := by decide +kernel
theorem dX9_openNow_5 : decode cX9_openNow 5 = .ok (.iconst 0, 1) := by decide +kernel
theorem dX9_openNow_6 : decode cX9_openNow 6 = .ok (.istore 4, 2) := by decide +kernel
theorem dX9_openNow_8 : decode cX9_openNow 8 = .ok (.iload 4, 2) := by decide +kernel
theorem dX9_openNow_10 : decode cX9_openNow 10 = .ok (.aload_n 0, 1) := by decide +kernel
theorem dX9_openNow_11 : decode cX9_openNow 11 = .ok (.invokevirtual 122, 3) := by decide +kernel
theorem dX9_openNow_14 : decode cX9_openNow 14 = .ok (.if_icmp .ge 43, 3) := by decide +kernel
theorem dX9_openNow_17 : decode cX9_openNow 17 = .ok (.aload_n 0, 1) := by decide +kernel
theorem dX9_openNow_18 : decode cX9_openNow 18 = .ok (.iload 4, 2) := by decide +kernel
theorem dX9_openNow_20 : decode cX9_openNow 20 = .ok (.invokevirtual 201, 3) := by decide +kernel
theorem dX9_openNow_23 : decode cX9_openNow 23 = .ok (.istore 5, 2) := by decide +kernel
theorem dX9_openNow_25 : decode cX9_openNow 25 = .ok (.iload 5, 2) := by decide +kernel
theorem dX9_openNow_27 : decode cX9_openNow 27 = .ok (.iload_n 3, 1) := by decide +kernel
theorem dX9_openNow_28 : decode cX9_openNow 28 = .ok (.if_icmp .ge 8, 3) := by decide +kernel
theorem dX9_openNow_31 : decode cX9_openNow 31 = .ok (.iload 4, 2) := by decide +kernel
theorem dX9_openNow_33 : decode cX9_openNow 33 = .ok (.goto 4, 3) := by decide +kernel
theorem dX9_openNow_36 : decode cX9_openNow 36 = .ok (.iload_n 2, 1) := by decide +kernel
theorem dX9_openNow_37 : decode cX9_openNow 37 = .ok (.istore_n 2, 1) := by decide +kernel
theorem dX9_openNow_38 : decode cX9_openNow 38 = .ok (.iload 5, 2) := by decide +kernel
theorem dX9_openNow_40 : decode cX9_openNow 40 = .ok (.iload_n 3, 1) := by decide +kernel
theorem dX9_openNow_41 : decode cX9_openNow 41 = .ok (.if_icmp .ge 8, 3) := by decide +kernel
theorem dX9_openNow_44 : decode cX9_openNow 44 = .ok (.iload 5, 2) := by decide +kernel
theorem dX9_openNow_46 : decode cX9_openNow 46 = .ok (.goto 4, 3) := by decide +kernel
theorem dX9_openNow_49 : decode cX9_openNow 49 = .ok (.iload_n 3, 1) := by decide +kernel
theorem dX9_openNow_50 : decode cX9_openNow 50 = .ok (.istore_n 3, 1) := by decide +kernel
theorem dX9_openNow_51 : decode cX9_openNow 51 = .ok (.iinc 4 1, 3) := by decide +kernel
theorem dX9_openNow_54 : decode cX9_openNow 54 = .ok (.goto (-46), 3) := by decide +kernel
theorem dX9_openNow_57 : decode cX9_openNow 57 = .ok (.iload_n 1, 1) := by decide +kernel
theorem dX9_openNow_58 : decode cX9_openNow 58 = .ok (.ifCond .ne 7, 3) := by decide +kernel
theorem dX9_openNow_61 : decode cX9_openNow 61 = .ok (.iload_n 2, 1) := by decide +kernel
theorem dX9_openNow_62 : decode cX9_openNow 62 = .ok (.goto 4, 3) := by decide +kernel
theorem dX9_openNow_65 : decode cX9_openNow 65 = .ok (.iload_n 3, 1) := by decide +kernel
theorem dX9_openNow_66 : decode cX9_openNow 66 = .ok (.ireturn, 1) := by decide +kernel
theorem dX9_open_0 : decode cX9_open 0 = .ok (.iload_n 1, 1) := by decide +kernel
theorem dX9_open_1 : decode cX9_open 1 = .ok (.iconst 0, 1) := by decide +kernel
theorem dX9_open_2 : decode cX9_open 2 = .ok (.iconst 1, 1) := by decide +kernel
theorem dX9_open_3 : decode cX9_open 3 = .ok (.invokestatic 66, 3) := by decide +kernel
theorem dX9_open_6 : decode cX9_open 6 = .ok (.ifCond .ne 6, 3) := by decide +kernel
theorem dX9_open_9 : decode cX9_open 9 = .ok (.bipush (-102), 2) := by decide +kernel
theorem dX9_open_11 : decode cX9_open 11 = .ok (.ireturn, 1) := by decide +kernel
theorem dX9_open_12 : decode cX9_open 12 = .ok (.aload_n 0, 1) := by decide +kernel
theorem dX9_open_13 : decode cX9_open 13 = .ok (.getfield 101, 3) := by decide +kernel
theorem dX9_open_16 : decode cX9_open 16 = .ok (.ifCond .ne 8, 3) := by decide +kernel
theorem dX9_open_19 : decode cX9_open 19 = .ok (.bipush (-103), 2) := by decide +kernel
theorem dX9_open_21 : decode cX9_open 21 = .ok (.goto 8, 3) := by decide +kernel
theorem dX9_open_24 : decode cX9_open 24 = .ok (.aload_n 0, 1) := by decide +kernel
theorem dX9_open_25 : decode cX9_open 25 = .ok (.iload_n 1, 1) := by decide +kernel
theorem dX9_open_26 : decode cX9_open 26 = .ok (.invokevirtual 204, 3) := by decide +kernel
theorem dX9_open_29 : decode cX9_open 29 = .ok (.ireturn, 1) := by decide +kernel
theorem dX9_layBeats_0 : decode cX9_layBeats 0 = .ok (.iconst 0, 1) := by decide +kernel
theorem dX9_layBeats_1 : decode cX9_layBeats 1 = .ok (.istore_n 1, 1) := by decide +kernel
theorem dX9_layBeats_2 : decode cX9_layBeats 2 = .ok (.iload_n 1, 1) := by decide +kernel
theorem dX9_layBeats_3 : decode cX9_layBeats 3 = .ok (.bipush 16, 2) := by decide +kernel
theorem dX9_layBeats_5 : decode cX9_layBeats 5 = .ok (.if_icmp .ge 76, 3) := by decide +kernel
theorem dX9_layBeats_8 : decode cX9_layBeats 8 = .ok (.iload_n 1, 1) := by decide +kernel
theorem dX9_layBeats_9 : decode cX9_layBeats 9 = .ok (.iconst 4, 1) := by decide +kernel
theorem dX9_layBeats_10 : decode cX9_layBeats 10 = .ok (.idiv, 1) := by decide +kernel
theorem dX9_layBeats_11 : decode cX9_layBeats 11 = .ok (.istore_n 2, 1) := by decide +kernel
theorem dX9_layBeats_12 : decode cX9_layBeats 12 = .ok (.iload_n 1, 1) := by decide +kernel
theorem dX9_layBeats_13 : decode cX9_layBeats 13 = .ok (.iconst 4, 1) := by decide +kernel
theorem dX9_layBeats_14 : decode cX9_layBeats 14 = .ok (.irem, 1) := by decide +kernel
theorem dX9_layBeats_15 : decode cX9_layBeats 15 = .ok (.istore_n 3, 1) := by decide +kernel
theorem dX9_layBeats_16 : decode cX9_layBeats 16 = .ok (.iload_n 2, 1) := by decide +kernel
theorem dX9_layBeats_17 : decode cX9_layBeats 17 = .ok (.aload_n 0, 1) := by decide +kernel
theorem dX9_layBeats_18 : decode cX9_layBeats 18 = .ok (.getfield 101, 3) := by decide +kernel
theorem dX9_layBeats_21 : decode cX9_layBeats 21 = .ok (.if_icmp .ge 20, 3) := by decide +kernel
theorem dX9_layBeats_24 : decode cX9_layBeats 24 = .ok (.iload_n 3, 1) := by decide +kernel
theorem dX9_layBeats_25 : decode cX9_layBeats 25 = .ok (.aload_n 0, 1) := by decide +kernel
theorem dX9_layBeats_26 : decode cX9_layBeats 26 = .ok (.getfield 101, 3) := by decide +kernel
theorem dX9_layBeats_29 : decode cX9_layBeats 29 = .ok (.if_icmp .ge 12, 3) := by decide +kernel
theorem dX9_layBeats_32 : decode cX9_layBeats 32 = .ok (.iload_n 2, 1) := by decide +kernel
theorem dX9_layBeats_33 : decode cX9_layBeats 33 = .ok (.iload_n 3, 1) := by decide +kernel
theorem dX9_layBeats_34 : decode cX9_layBeats 34 = .ok (.if_icmp .eq 7, 3) := by decide +kernel
theorem dX9_layBeats_37 : decode cX9_layBeats 37 = .ok (.iconst 1, 1) := by decide +kernel
theorem dX9_layBeats_38 : decode cX9_layBeats 38 = .ok (.goto 4, 3) := by decide +kernel
theorem dX9_layBeats_41 : decode cX9_layBeats 41 = .ok (.iconst 0, 1) := by decide +kernel
theorem dX9_layBeats_42 : decode cX9_layBeats 42 = .ok (.istore 4, 2) := by decide +kernel
theorem dX9_layBeats_44 : decode cX9_layBeats 44 = .ok (.aload_n 0, 1) := by decide +kernel
theorem dX9_layBeats_45 : decode cX9_layBeats 45 = .ok (.getfield 36, 3) := by decide +kernel
theorem dX9_layBeats_48 : decode cX9_layBeats 48 = .ok (.iload_n 1, 1) := by decide +kernel
theorem dX9_layBeats_49 : decode cX9_layBeats 49 = .ok (.iload 4, 2) := by decide +kernel
theorem dX9_layBeats_51 : decode cX9_layBeats 51 = .ok (.ifCond .eq 22, 3) := by decide +kernel
theorem dX9_layBeats_54 : decode cX9_layBeats 54 = .ok (.aload_n 0, 1) := by decide +kernel
theorem dX9_layBeats_55 : decode cX9_layBeats 55 = .ok (.iload_n 2, 1) := by decide +kernel
theorem dX9_layBeats_56 : decode cX9_layBeats 56 = .ok (.iload_n 3, 1) := by decide +kernel
theorem dX9_layBeats_57 : decode cX9_layBeats 57 = .ok (.invokevirtual 194, 3) := by decide +kernel
theorem dX9_layBeats_60 : decode cX9_layBeats 60 = .ok (.aload_n 0, 1) := by decide +kernel
theorem dX9_layBeats_61 : decode cX9_layBeats 61 = .ok (.iload_n 3, 1) := by decide +kernel
theorem dX9_layBeats_62 : decode cX9_layBeats 62 = .ok (.iload_n 2, 1) := by decide +kernel
theorem dX9_layBeats_63 : decode cX9_layBeats 63 = .ok (.invokevirtual 194, 3) := by decide +kernel
theorem dX9_layBeats_66 : decode cX9_layBeats 66 = .ok (.if_icmp .le 7, 3) := by decide +kernel
theorem dX9_layBeats_69 : decode cX9_layBeats 69 = .ok (.iconst 1, 1) := by decide +kernel
theorem dX9_layBeats_70 : decode cX9_layBeats 70 = .ok (.goto 4, 3) := by decide +kernel
theorem dX9_layBeats_73 : decode cX9_layBeats 73 = .ok (.iconst 0, 1) := by decide +kernel
theorem dX9_layBeats_74 : decode cX9_layBeats 74 = .ok (.iastore, 1) := by decide +kernel
theorem dX9_layBeats_75 : decode cX9_layBeats 75 = .ok (.iinc 1 1, 3) := by decide +kernel
theorem dX9_layBeats_78 : decode cX9_layBeats 78 = .ok (.goto (-76), 3) := by decide +kernel
theorem dX9_layBeats_81 : decode cX9_layBeats 81 = .ok (.return_, 1) := by decide +kernel
theorem dX9_isRound_0 : decode cX9_isRound 0 = .ok (.aload_n 0, 1) := by decide +kernel
theorem dX9_isRound_1 : decode cX9_isRound 1 = .ok (.getfield 36, 3) := by decide +kernel
theorem dX9_isRound_4 : decode cX9_isRound 4 = .ok (.iconst 4, 1) := by decide +kernel
theorem dX9_isRound_5 : decode cX9_isRound 5 = .ok (.iload_n 1, 1) := by decide +kernel
theorem dX9_isRound_6 : decode cX9_isRound 6 = .ok (.imul, 1) := by decide +kernel
theorem dX9_isRound_7 : decode cX9_isRound 7 = .ok (.iload_n 2, 1) := by decide +kernel
theorem dX9_isRound_8 : decode cX9_isRound 8 = .ok (.iadd, 1) := by decide +kernel
theorem dX9_isRound_9 : decode cX9_isRound 9 = .ok (.iaload, 1) := by decide +kernel
theorem dX9_isRound_10 : decode cX9_isRound 10 = .ok (.aload_n 0, 1) := by decide +kernel
theorem dX9_isRound_11 : decode cX9_isRound 11 = .ok (.getfield 36, 3) := by decide +kernel
theorem dX9_isRound_14 : decode cX9_isRound 14 = .ok (.iconst 4, 1) := by decide +kernel
theorem dX9_isRound_15 : decode cX9_isRound 15 = .ok (.iload_n 2, 1) := by decide +kernel
theorem dX9_isRound_16 : decode cX9_isRound 16 = .ok (.imul, 1) := by decide +kernel
theorem dX9_isRound_17 : decode cX9_isRound 17 = .ok (.iload_n 3, 1) := by decide +kernel
theorem dX9_isRound_18 : decode cX9_isRound 18 = .ok (.iadd, 1) := by decide +kernel
theorem dX9_isRound_19 : decode cX9_isRound 19 = .ok (.iaload, 1) := by decide +kernel
theorem dX9_isRound_20 : decode cX9_isRound 20 = .ok (.iadd, 1) := by decide +kernel
theorem dX9_isRound_21 : decode cX9_isRound 21 = .ok (.aload_n 0, 1) := by decide +kernel
theorem dX9_isRound_22 : decode cX9_isRound 22 = .ok (.getfield 36, 3) := by decide +kernel
theorem dX9_isRound_25 : decode cX9_isRound 25 = .ok (.iconst 4, 1) := by decide +kernel
theorem dX9_isRound_26 : decode cX9_isRound 26 = .ok (.iload_n 3, 1) := by decide +kernel
theorem dX9_isRound_27 : decode cX9_isRound 27 = .ok (.imul, 1) := by decide +kernel
theorem dX9_isRound_28 : decode cX9_isRound 28 = .ok (.iload_n 1, 1) := by decide +kernel
theorem dX9_isRound_29 : decode cX9_isRound 29 = .ok (.iadd, 1) := by decide +kernel
theorem dX9_isRound_30 : decode cX9_isRound 30 = .ok (.iaload, 1) := by decide +kernel
theorem dX9_isRound_31 : decode cX9_isRound 31 = .ok (.iadd, 1) := by decide +kernel
theorem dX9_isRound_32 : decode cX9_isRound 32 = .ok (.iconst 3, 1) := by decide +kernel
theorem dX9_isRound_33 : decode cX9_isRound 33 = .ok (.if_icmp .ne 7, 3) := by decide +kernel
theorem dX9_isRound_36 : decode cX9_isRound 36 = .ok (.iconst 1, 1) := by decide +kernel
theorem dX9_isRound_37 : decode cX9_isRound 37 = .ok (.goto 4, 3) := by decide +kernel
theorem dX9_isRound_40 : decode cX9_isRound 40 = .ok (.iconst 0, 1) := by decide +kernel
theorem dX9_isRound_41 : decode cX9_isRound 41 = .ok (.ireturn, 1) := by decide +kernel
theorem dX9_isRoundOfFour_0 : decode cX9_isRoundOfFour 0 = .ok (.aload_n 0, 1) := by decide +kernel
theorem dX9_isRoundOfFour_1 : decode cX9_isRoundOfFour 1 = .ok (.getfield 36, 3) := by decide +kernel
theorem dX9_isRoundOfFour_4 : decode cX9_isRoundOfFour 4 = .ok (.iconst 4, 1) := by decide +kernel
theorem dX9_isRoundOfFour_5 : decode cX9_isRoundOfFour 5 = .ok (.iload_n 1, 1) := by decide +kernel
theorem dX9_isRoundOfFour_6 : decode cX9_isRoundOfFour 6 = .ok (.imul, 1) := by decide +kernel
theorem dX9_isRoundOfFour_7 : decode cX9_isRoundOfFour 7 = .ok (.iload_n 2, 1) := by decide +kernel
theorem dX9_isRoundOfFour_8 : decode cX9_isRoundOfFour 8 = .ok (.iadd, 1) := by decide +kernel
theorem dX9_isRoundOfFour_9 : decode cX9_isRoundOfFour 9 = .ok (.iaload, 1) := by decide +kernel
theorem dX9_isRoundOfFour_10 : decode cX9_isRoundOfFour 10 = .ok (.aload_n 0, 1) := by decide +kernel
theorem dX9_isRoundOfFour_11 : decode cX9_isRoundOfFour 11 = .ok (.getfield 36, 3) := by decide +kernel
theorem dX9_isRoundOfFour_14 : decode cX9_isRoundOfFour 14 = .ok (.iconst 4, 1) := by decide +kernel
theorem dX9_isRoundOfFour_15 : decode cX9_isRoundOfFour 15 = .ok (.iload_n 2, 1) := by decide +kernel
theorem dX9_isRoundOfFour_16 : decode cX9_isRoundOfFour 16 = .ok (.imul, 1) := by decide +kernel
theorem dX9_isRoundOfFour_17 : decode cX9_isRoundOfFour 17 = .ok (.iload_n 3, 1) := by decide +kernel
theorem dX9_isRoundOfFour_18 : decode cX9_isRoundOfFour 18 = .ok (.iadd, 1) := by decide +kernel
theorem dX9_isRoundOfFour_19 : decode cX9_isRoundOfFour 19 = .ok (.iaload, 1) := by decide +kernel
theorem dX9_isRoundOfFour_20 : decode cX9_isRoundOfFour 20 = .ok (.iadd, 1) := by decide +kernel
theorem dX9_isRoundOfFour_21 : decode cX9_isRoundOfFour 21 = .ok (.aload_n 0, 1) := by decide +kernel
end
section
theorem dX9_isRoundOfFour_22 : decode cX9_isRoundOfFour 22 = .ok (.getfield 36, 3) := by decide +kernel
theorem dX9_isRoundOfFour_25 : decode cX9_isRoundOfFour 25 = .ok (.iconst 4, 1) := by decide +kernel
theorem dX9_isRoundOfFour_26 : decode cX9_isRoundOfFour 26 = .ok (.iload_n 3, 1) := by decide +kernel
theorem dX9_isRoundOfFour_27 : decode cX9_isRoundOfFour 27 = .ok (.imul, 1) := by decide +kernel
theorem dX9_isRoundOfFour_28 : decode cX9_isRoundOfFour 28 = .ok (.iload 4, 2) := by decide +kernel
theorem dX9_isRoundOfFour_30 : decode cX9_isRoundOfFour 30 = .ok (.iadd, 1) := by decide +kernel
theorem dX9_isRoundOfFour_31 : decode cX9_isRoundOfFour 31 = .ok (.iaload, 1) := by decide +kernel
theorem dX9_isRoundOfFour_32 : decode cX9_isRoundOfFour 32 = .ok (.iadd, 1) := by decide +kernel
theorem dX9_isRoundOfFour_33 : decode cX9_isRoundOfFour 33 = .ok (.aload_n 0, 1) := by decide +kernel
theorem dX9_isRoundOfFour_34 : decode cX9_isRoundOfFour 34 = .ok (.getfield 36, 3) := by decide +kernel
theorem dX9_isRoundOfFour_37 : decode cX9_isRoundOfFour 37 = .ok (.iconst 4, 1) := by decide +kernel
theorem dX9_isRoundOfFour_38 : decode cX9_isRoundOfFour 38 = .ok (.iload 4, 2) := by decide +kernel
theorem dX9_isRoundOfFour_40 : decode cX9_isRoundOfFour 40 = .ok (.imul, 1) := by decide +kernel
theorem dX9_isRoundOfFour_41 : decode cX9_isRoundOfFour 41 = .ok (.iload_n 1, 1) := by decide +kernel
theorem dX9_isRoundOfFour_42 : decode cX9_isRoundOfFour 42 = .ok (.iadd, 1) := by decide +kernel
theorem dX9_isRoundOfFour_43 : decode cX9_isRoundOfFour 43 = .ok (.iaload, 1) := by decide +kernel
theorem dX9_isRoundOfFour_44 : decode cX9_isRoundOfFour 44 = .ok (.iadd, 1) := by decide +kernel
theorem dX9_isRoundOfFour_45 : decode cX9_isRoundOfFour 45 = .ok (.iconst 4, 1) := by decide +kernel
theorem dX9_isRoundOfFour_46 : decode cX9_isRoundOfFour 46 = .ok (.if_icmp .ne 7, 3) := by decide +kernel
theorem dX9_isRoundOfFour_49 : decode cX9_isRoundOfFour 49 = .ok (.iconst 1, 1) := by decide +kernel
theorem dX9_isRoundOfFour_50 : decode cX9_isRoundOfFour 50 = .ok (.goto 4, 3) := by decide +kernel
theorem dX9_isRoundOfFour_53 : decode cX9_isRoundOfFour 53 = .ok (.iconst 0, 1) := by decide +kernel
theorem dX9_isRoundOfFour_54 : decode cX9_isRoundOfFour 54 = .ok (.ireturn, 1) := by decide +kernel
theorem dX9_ringNow_0 : decode cX9_ringNow 0 = .ok (.aload_n 0, 1) := by decide +kernel
theorem dX9_ringNow_1 : decode cX9_ringNow 1 = .ok (.invokevirtual 207, 3) := by decide +kernel
theorem dX9_ringNow_4 : decode cX9_ringNow 4 = .ok (.iconst 0, 1) := by decide +kernel
theorem dX9_ringNow_5 : decode cX9_ringNow 5 = .ok (.istore_n 1, 1) := by decide +kernel
theorem dX9_ringNow_6 : decode cX9_ringNow 6 = .ok (.iconst 2, 1) := by decide +kernel
theorem dX9_ringNow_7 : decode cX9_ringNow 7 = .ok (.istore_n 2, 1) := by decide +kernel
theorem dX9_ringNow_8 : decode cX9_ringNow 8 = .ok (.iload_n 2, 1) := by decide +kernel
theorem dX9_ringNow_9 : decode cX9_ringNow 9 = .ok (.aload_n 0, 1) := by decide +kernel
theorem dX9_ringNow_10 : decode cX9_ringNow 10 = .ok (.getfield 101, 3) := by decide +kernel
theorem dX9_ringNow_13 : decode cX9_ringNow 13 = .ok (.if_icmp .ge 102, 3) := by decide +kernel
theorem dX9_ringNow_16 : decode cX9_ringNow 16 = .ok (.iconst 1, 1) := by decide +kernel
theorem dX9_ringNow_17 : decode cX9_ringNow 17 = .ok (.istore_n 3, 1) := by decide +kernel
theorem dX9_ringNow_18 : decode cX9_ringNow 18 = .ok (.iload_n 3, 1) := by decide +kernel
theorem dX9_ringNow_19 : decode cX9_ringNow 19 = .ok (.iload_n 2, 1) := by decide +kernel
theorem dX9_ringNow_20 : decode cX9_ringNow 20 = .ok (.if_icmp .ge 89, 3) := by decide +kernel
theorem dX9_ringNow_23 : decode cX9_ringNow 23 = .ok (.iconst 0, 1) := by decide +kernel
theorem dX9_ringNow_24 : decode cX9_ringNow 24 = .ok (.istore 4, 2) := by decide +kernel
theorem dX9_ringNow_26 : decode cX9_ringNow 26 = .ok (.iload 4, 2) := by decide +kernel
theorem dX9_ringNow_28 : decode cX9_ringNow 28 = .ok (.iload_n 3, 1) := by decide +kernel
theorem dX9_ringNow_29 : decode cX9_ringNow 29 = .ok (.if_icmp .ge 74, 3) := by decide +kernel
theorem dX9_ringNow_32 : decode cX9_ringNow 32 = .ok (.iconst 1, 1) := by decide +kernel
theorem dX9_ringNow_33 : decode cX9_ringNow 33 = .ok (.iload 4, 2) := by decide +kernel
theorem dX9_ringNow_35 : decode cX9_ringNow 35 = .ok (.ishl, 1) := by decide +kernel
theorem dX9_ringNow_36 : decode cX9_ringNow 36 = .ok (.iconst 1, 1) := by decide +kernel
theorem dX9_ringNow_37 : decode cX9_ringNow 37 = .ok (.iload_n 3, 1) := by decide +kernel
theorem dX9_ringNow_38 : decode cX9_ringNow 38 = .ok (.ishl, 1) := by decide +kernel
theorem dX9_ringNow_39 : decode cX9_ringNow 39 = .ok (.ior, 1) := by decide +kernel
theorem dX9_ringNow_40 : decode cX9_ringNow 40 = .ok (.iconst 1, 1) := by decide +kernel
theorem dX9_ringNow_41 : decode cX9_ringNow 41 = .ok (.iload_n 2, 1) := by decide +kernel
theorem dX9_ringNow_42 : decode cX9_ringNow 42 = .ok (.ishl, 1) := by decide +kernel
theorem dX9_ringNow_43 : decode cX9_ringNow 43 = .ok (.ior, 1) := by decide +kernel
theorem dX9_ringNow_44 : decode cX9_ringNow 44 = .ok (.istore 5, 2) := by decide +kernel
theorem dX9_ringNow_46 : decode cX9_ringNow 46 = .ok (.aload_n 0, 1) := by decide +kernel
theorem dX9_ringNow_47 : decode cX9_ringNow 47 = .ok (.iload 4, 2) := by decide +kernel
theorem dX9_ringNow_49 : decode cX9_ringNow 49 = .ok (.iload_n 3, 1) := by decide +kernel
theorem dX9_ringNow_50 : decode cX9_ringNow 50 = .ok (.iload_n 2, 1) := by decide +kernel
theorem dX9_ringNow_51 : decode cX9_ringNow 51 = .ok (.invokevirtual 210, 3) := by decide +kernel
theorem dX9_ringNow_54 : decode cX9_ringNow 54 = .ok (.ifCond .ne 14, 3) := by decide +kernel
theorem dX9_ringNow_57 : decode cX9_ringNow 57 = .ok (.aload_n 0, 1) := by decide +kernel
theorem dX9_ringNow_58 : decode cX9_ringNow 58 = .ok (.iload 4, 2) := by decide +kernel
theorem dX9_ringNow_60 : decode cX9_ringNow 60 = .ok (.iload_n 2, 1) := by decide +kernel
theorem dX9_ringNow_61 : decode cX9_ringNow 61 = .ok (.iload_n 3, 1) := by decide +kernel
theorem dX9_ringNow_62 : decode cX9_ringNow 62 = .ok (.invokevirtual 210, 3) := by decide +kernel
theorem dX9_ringNow_65 : decode cX9_ringNow 65 = .ok (.ifCond .eq 7, 3) := by decide +kernel
theorem dX9_ringNow_68 : decode cX9_ringNow 68 = .ok (.iconst 1, 1) := by decide +kernel
theorem dX9_ringNow_69 : decode cX9_ringNow 69 = .ok (.goto 4, 3) := by decide +kernel
theorem dX9_ringNow_72 : decode cX9_ringNow 72 = .ok (.iconst 0, 1) := by decide +kernel
theorem dX9_ringNow_73 : decode cX9_ringNow 73 = .ok (.istore 6, 2) := by decide +kernel
theorem dX9_ringNow_75 : decode cX9_ringNow 75 = .ok (.iload 6, 2) := by decide +kernel
theorem dX9_ringNow_77 : decode cX9_ringNow 77 = .ok (.ifCond .eq 18, 3) := by decide +kernel
theorem dX9_ringNow_80 : decode cX9_ringNow 80 = .ok (.iload_n 1, 1) := by decide +kernel
theorem dX9_ringNow_81 : decode cX9_ringNow 81 = .ok (.ifCond .eq 9, 3) := by decide +kernel
theorem dX9_ringNow_84 : decode cX9_ringNow 84 = .ok (.iload 5, 2) := by decide +kernel
theorem dX9_ringNow_86 : decode cX9_ringNow 86 = .ok (.iload_n 1, 1) := by decide +kernel
theorem dX9_ringNow_87 : decode cX9_ringNow 87 = .ok (.if_icmp .ge 8, 3) := by decide +kernel
theorem dX9_ringNow_90 : decode cX9_ringNow 90 = .ok (.iload 5, 2) := by decide +kernel
theorem dX9_ringNow_92 : decode cX9_ringNow 92 = .ok (.goto 4, 3) := by decide +kernel
theorem dX9_ringNow_95 : decode cX9_ringNow 95 = .ok (.iload_n 1, 1) := by decide +kernel
theorem dX9_ringNow_96 : decode cX9_ringNow 96 = .ok (.istore_n 1, 1) := by decide +kernel
theorem dX9_ringNow_97 : decode cX9_ringNow 97 = .ok (.iinc 4 1, 3) := by decide +kernel
theorem dX9_ringNow_100 : decode cX9_ringNow 100 = .ok (.goto (-74), 3) := by decide +kernel
theorem dX9_ringNow_103 : decode cX9_ringNow 103 = .ok (.iinc 3 1, 3) := by decide +kernel
theorem dX9_ringNow_106 : decode cX9_ringNow 106 = .ok (.goto (-88), 3) := by decide +kernel
theorem dX9_ringNow_109 : decode cX9_ringNow 109 = .ok (.iinc 2 1, 3) := by decide +kernel
theorem dX9_ringNow_112 : decode cX9_ringNow 112 = .ok (.goto (-104), 3) := by decide +kernel
theorem dX9_ringNow_115 : decode cX9_ringNow 115 = .ok (.iload_n 1, 1) := by decide +kernel
theorem dX9_ringNow_116 : decode cX9_ringNow 116 = .ok (.ifCond .ne 11, 3) := by decide +kernel
theorem dX9_ringNow_119 : decode cX9_ringNow 119 = .ok (.aload_n 0, 1) := by decide +kernel
theorem dX9_ringNow_120 : decode cX9_ringNow 120 = .ok (.getfield 101, 3) := by decide +kernel
theorem dX9_ringNow_123 : decode cX9_ringNow 123 = .ok (.iconst 4, 1) := by decide +kernel
theorem dX9_ringNow_124 : decode cX9_ringNow 124 = .ok (.if_icmp .ge 5, 3) := by decide +kernel
theorem dX9_ringNow_127 : decode cX9_ringNow 127 = .ok (.iload_n 1, 1) := by decide +kernel
theorem dX9_ringNow_128 : decode cX9_ringNow 128 = .ok (.ireturn, 1) := by decide +kernel
theorem dX9_ringNow_129 : decode cX9_ringNow 129 = .ok (.aload_n 0, 1) := by decide +kernel
theorem dX9_ringNow_130 : decode cX9_ringNow 130 = .ok (.iconst 0, 1) := by decide +kernel
theorem dX9_ringNow_131 : decode cX9_ringNow 131 = .ok (.iconst 1, 1) := by decide +kernel
theorem dX9_ringNow_132 : decode cX9_ringNow 132 = .ok (.iconst 2, 1) := by decide +kernel
theorem dX9_ringNow_133 : decode cX9_ringNow 133 = .ok (.iconst 3, 1) := by decide +kernel
theorem dX9_ringNow_134 : decode cX9_ringNow 134 = .ok (.invokevirtual 213, 3) := by decide +kernel
theorem dX9_ringNow_137 : decode cX9_ringNow 137 = .ok (.ifCond .ne 58, 3) := by decide +kernel
theorem dX9_ringNow_140 : decode cX9_ringNow 140 = .ok (.aload_n 0, 1) := by decide +kernel
theorem dX9_ringNow_141 : decode cX9_ringNow 141 = .ok (.iconst 0, 1) := by decide +kernel
theorem dX9_ringNow_142 : decode cX9_ringNow 142 = .ok (.iconst 1, 1) := by decide +kernel
theorem dX9_ringNow_143 : decode cX9_ringNow 143 = .ok (.iconst 3, 1) := by decide +kernel
theorem dX9_ringNow_144 : decode cX9_ringNow 144 = .ok (.iconst 2, 1) := by decide +kernel
theorem dX9_ringNow_145 : decode cX9_ringNow 145 = .ok (.invokevirtual 213, 3) := by decide +kernel
theorem dX9_ringNow_148 : decode cX9_ringNow 148 = .ok (.ifCond .ne 47, 3) := by decide +kernel
theorem dX9_ringNow_151 : decode cX9_ringNow 151 = .ok (.aload_n 0, 1) := by decide +kernel
theorem dX9_ringNow_152 : decode cX9_ringNow 152 = .ok (.iconst 0, 1) := by decide +kernel
theorem dX9_ringNow_153 : decode cX9_ringNow 153 = .ok (.iconst 2, 1) := by decide +kernel
theorem dX9_ringNow_154 : decode cX9_ringNow 154 = .ok (.iconst 1, 1) := by decide +kernel
theorem dX9_ringNow_155 : decode cX9_ringNow 155 = .ok (.iconst 3, 1) := by decide +kernel
theorem dX9_ringNow_156 : decode cX9_ringNow 156 = .ok (.invokevirtual 213, 3) := by decide +kernel
theorem dX9_ringNow_159 : decode cX9_ringNow 159 = .ok (.ifCond .ne 36, 3) := by decide +kernel
theorem dX9_ringNow_162 : decode cX9_ringNow 162 = .ok (.aload_n 0, 1) := by decide +kernel
theorem dX9_ringNow_163 : decode cX9_ringNow 163 = .ok (.iconst 0, 1) := by decide +kernel
theorem dX9_ringNow_164 : decode cX9_ringNow 164 = .ok (.iconst 2, 1) := by decide +kernel
theorem dX9_ringNow_165 : decode cX9_ringNow 165 = .ok (.iconst 3, 1) := by decide +kernel
theorem dX9_ringNow_166 : decode cX9_ringNow 166 = .ok (.iconst 1, 1) := by decide +kernel
theorem dX9_ringNow_167 : decode cX9_ringNow 167 = .ok (.invokevirtual 213, 3) := by decide +kernel
theorem dX9_ringNow_170 : decode cX9_ringNow 170 = .ok (.ifCond .ne 25, 3) := by decide +kernel
theorem dX9_ringNow_173 : decode cX9_ringNow 173 = .ok (.aload_n 0, 1) := by decide +kernel
theorem dX9_ringNow_174 : decode cX9_ringNow 174 = .ok (.iconst 0, 1) := by decide +kernel
theorem dX9_ringNow_175 : decode cX9_ringNow 175 = .ok (.iconst 3, 1) := by decide +kernel
theorem dX9_ringNow_176 : decode cX9_ringNow 176 = .ok (.iconst 1, 1) := by decide +kernel
theorem dX9_ringNow_177 : decode cX9_ringNow 177 = .ok (.iconst 2, 1) := by decide +kernel
theorem dX9_ringNow_178 : decode cX9_ringNow 178 = .ok (.invokevirtual 213, 3) := by decide +kernel
theorem dX9_ringNow_181 : decode cX9_ringNow 181 = .ok (.ifCond .ne 14, 3) := by decide +kernel
theorem dX9_ringNow_184 : decode cX9_ringNow 184 = .ok (.aload_n 0, 1) := by decide +kernel
theorem dX9_ringNow_185 : decode cX9_ringNow 185 = .ok (.iconst 0, 1) := by decide +kernel
theorem dX9_ringNow_186 : decode cX9_ringNow 186 = .ok (.iconst 3, 1) := by decide +kernel
theorem dX9_ringNow_187 : decode cX9_ringNow 187 = .ok (.iconst 2, 1) := by decide +kernel
theorem dX9_ringNow_188 : decode cX9_ringNow 188 = .ok (.iconst 1, 1) := by decide +kernel
theorem dX9_ringNow_189 : decode cX9_ringNow 189 = .ok (.invokevirtual 213, 3) := by decide +kernel
theorem dX9_ringNow_192 : decode cX9_ringNow 192 = .ok (.ifCond .eq 7, 3) := by decide +kernel
theorem dX9_ringNow_195 : decode cX9_ringNow 195 = .ok (.iconst 1, 1) := by decide +kernel
theorem dX9_ringNow_196 : decode cX9_ringNow 196 = .ok (.goto 4, 3) := by decide +kernel
theorem dX9_ringNow_199 : decode cX9_ringNow 199 = .ok (.iconst 0, 1) := by decide +kernel
theorem dX9_ringNow_200 : decode cX9_ringNow 200 = .ok (.istore_n 2, 1) := by decide +kernel
theorem dX9_ringNow_201 : decode cX9_ringNow 201 = .ok (.iload_n 2, 1) := by decide +kernel
theorem dX9_ringNow_202 : decode cX9_ringNow 202 = .ok (.ifCond .eq 8, 3) := by decide +kernel
theorem dX9_ringNow_205 : decode cX9_ringNow 205 = .ok (.bipush 15, 2) := by decide +kernel
theorem dX9_ringNow_207 : decode cX9_ringNow 207 = .ok (.goto 4, 3) := by decide +kernel
theorem dX9_ringNow_210 : decode cX9_ringNow 210 = .ok (.iconst 0, 1) := by decide +kernel
theorem dX9_ringNow_211 : decode cX9_ringNow 211 = .ok (.ireturn, 1) := by decide +kernel
theorem dX9_ring_0 : decode cX9_ring 0 = .ok (.aload_n 0, 1) := by decide +kernel
theorem dX9_ring_1 : decode cX9_ring 1 = .ok (.getfield 101, 3) := by decide +kernel
theorem dX9_ring_4 : decode cX9_ring 4 = .ok (.ifCond .ne 8, 3) := by decide +kernel
theorem dX9_ring_7 : decode cX9_ring 7 = .ok (.bipush (-103), 2) := by decide +kernel
theorem dX9_ring_9 : decode cX9_ring 9 = .ok (.goto 7, 3) := by decide +kernel
theorem dX9_ring_12 : decode cX9_ring 12 = .ok (.aload_n 0, 1) := by decide +kernel
theorem dX9_ring_13 : decode cX9_ring 13 = .ok (.invokevirtual 217, 3) := by decide +kernel
theorem dX9_ring_16 : decode cX9_ring 16 = .ok (.ireturn, 1) := by decide +kernel
theorem dX9_behind_0 : decode cX9_behind 0 = .ok (.iconst 2, 1) := by decide +kernel
theorem dX9_behind_1 : decode cX9_behind 1 = .ok (.iload_n 1, 1) := by decide +kernel
theorem dX9_behind_2 : decode cX9_behind 2 = .ok (.imul, 1) := by decide +kernel
theorem dX9_behind_3 : decode cX9_behind 3 = .ok (.iload_n 2, 1) := by decide +kernel
theorem dX9_behind_4 : decode cX9_behind 4 = .ok (.iadd, 1) := by decide +kernel
theorem dX9_behind_5 : decode cX9_behind 5 = .ok (.istore_n 3, 1) := by decide +kernel
theorem dX9_behind_6 : decode cX9_behind 6 = .ok (.iload_n 3, 1) := by decide +kernel
theorem dX9_behind_7 : decode cX9_behind 7 = .ok (.aload_n 0, 1) := by decide +kernel
theorem dX9_behind_8 : decode cX9_behind 8 = .ok (.invokevirtual 122, 3) := by decide +kernel
theorem dX9_behind_11 : decode cX9_behind 11 = .ok (.if_icmp .ge 7, 3) := by decide +kernel
theorem dX9_behind_14 : decode cX9_behind 14 = .ok (.iload_n 3, 1) := by decide +kernel
theorem dX9_behind_15 : decode cX9_behind 15 = .ok (.goto 16, 3) := by decide +kernel
theorem dX9_behind_18 : decode cX9_behind 18 = .ok (.iload_n 3, 1) := by decide +kernel
theorem dX9_behind_19 : decode cX9_behind 19 = .ok (.aload_n 0, 1) := by decide +kernel
theorem dX9_behind_20 : decode cX9_behind 20 = .ok (.invokevirtual 164, 3) := by decide +kernel
theorem dX9_behind_23 : decode cX9_behind 23 = .ok (.iconst 1, 1) := by decide +kernel
theorem dX9_behind_24 : decode cX9_behind 24 = .ok (.isub, 1) := by decide +kernel
theorem dX9_behind_25 : decode cX9_behind 25 = .ok (.iand, 1) := by decide +kernel
theorem dX9_behind_26 : decode cX9_behind 26 = .ok (.aload_n 0, 1) := by decide +kernel
theorem dX9_behind_27 : decode cX9_behind 27 = .ok (.invokevirtual 164, 3) := by decide +kernel
theorem dX9_behind_30 : decode cX9_behind 30 = .ok (.ior, 1) := by decide +kernel
theorem dX9_behind_31 : decode cX9_behind 31 = .ok (.ireturn, 1) := by decide +kernel
theorem dX9_tossWays_0 : decode cX9_tossWays 0 = .ok (.iconst 0, 1) := by decide +kernel
theorem dX9_tossWays_1 : decode cX9_tossWays 1 = .ok (.istore_n 3, 1) := by decide +kernel
theorem dX9_tossWays_2 : decode cX9_tossWays 2 = .ok (.iconst 0, 1) := by decide +kernel
theorem dX9_tossWays_3 : decode cX9_tossWays 3 = .ok (.istore 4, 2) := by decide +kernel
theorem dX9_tossWays_5 : decode cX9_tossWays 5 = .ok (.iload 4, 2) := by decide +kernel
theorem dX9_tossWays_7 : decode cX9_tossWays 7 = .ok (.iconst 2, 1) := by decide +kernel
theorem dX9_tossWays_8 : decode cX9_tossWays 8 = .ok (.if_icmp .ge 96, 3) := by decide +kernel
theorem dX9_tossWays_11 : decode cX9_tossWays 11 = .ok (.iconst 2, 1) := by decide +kernel
theorem dX9_tossWays_12 : decode cX9_tossWays 12 = .ok (.iload_n 1, 1) := by decide +kernel
theorem dX9_tossWays_13 : decode cX9_tossWays 13 = .ok (.imul, 1) := by decide +kernel
theorem dX9_tossWays_14 : decode cX9_tossWays 14 = .ok (.iload 4, 2) := by decide +kernel
theorem dX9_tossWays_16 : decode cX9_tossWays 16 = .ok (.iadd, 1) := by decide +kernel
theorem dX9_tossWays_17 : decode cX9_tossWays 17 = .ok (.istore 5, 2) := by decide +kernel
theorem dX9_tossWays_19 : decode cX9_tossWays 19 = .ok (.iload 5, 2) := by decide +kernel
theorem dX9_tossWays_21 : decode cX9_tossWays 21 = .ok (.aload_n 0, 1) := by decide +kernel
theorem dX9_tossWays_22 : decode cX9_tossWays 22 = .ok (.invokevirtual 122, 3) := by decide +kernel
theorem dX9_tossWays_25 : decode cX9_tossWays 25 = .ok (.if_icmp .ge 7, 3) := by decide +kernel
theorem dX9_tossWays_28 : decode cX9_tossWays 28 = .ok (.iconst 0, 1) := by decide +kernel
theorem dX9_tossWays_29 : decode cX9_tossWays 29 = .ok (.goto 13, 3) := by decide +kernel
theorem dX9_tossWays_32 : decode cX9_tossWays 32 = .ok (.aload_n 0, 1) := by decide +kernel
theorem dX9_tossWays_33 : decode cX9_tossWays 33 = .ok (.aload_n 0, 1) := by decide +kernel
theorem dX9_tossWays_34 : decode cX9_tossWays 34 = .ok (.getfield 98, 3) := by decide +kernel
theorem dX9_tossWays_37 : decode cX9_tossWays 37 = .ok (.iload 5, 2) := by decide +kernel
theorem dX9_tossWays_39 : decode cX9_tossWays 39 = .ok (.invokevirtual 161, 3) := by decide +kernel
theorem dX9_tossWays_42 : decode cX9_tossWays 42 = .ok (.istore 6, 2) := by decide +kernel
theorem dX9_tossWays_44 : decode cX9_tossWays 44 = .ok (.iload 6, 2) := by decide +kernel
theorem dX9_tossWays_46 : decode cX9_tossWays 46 = .ok (.ifCond .ne 27, 3) := by decide +kernel
theorem dX9_tossWays_49 : decode cX9_tossWays 49 = .ok (.aload_n 0, 1) := by decide +kernel
theorem dX9_tossWays_50 : decode cX9_tossWays 50 = .ok (.getfield 42, 3) := by decide +kernel
theorem dX9_tossWays_53 : decode cX9_tossWays 53 = .ok (.aload_n 0, 1) := by decide +kernel
theorem dX9_tossWays_54 : decode cX9_tossWays 54 = .ok (.iload_n 1, 1) := by decide +kernel
theorem dX9_tossWays_55 : decode cX9_tossWays 55 = .ok (.iload 4, 2) := by decide +kernel
theorem dX9_tossWays_57 : decode cX9_tossWays 57 = .ok (.invokevirtual 220, 3) := by decide +kernel
theorem dX9_tossWays_60 : decode cX9_tossWays 60 = .ok (.dup2, 1) := by decide +kernel
theorem dX9_tossWays_61 : decode cX9_tossWays 61 = .ok (.iaload, 1) := by decide +kernel
theorem dX9_tossWays_62 : decode cX9_tossWays 62 = .ok (.aload_n 0, 1) := by decide +kernel
theorem dX9_tossWays_63 : decode cX9_tossWays 63 = .ok (.getfield 39, 3) := by decide +kernel
theorem dX9_tossWays_66 : decode cX9_tossWays 66 = .ok (.iload_n 1, 1) := by decide +kernel
theorem dX9_tossWays_67 : decode cX9_tossWays 67 = .ok (.iaload, 1) := by decide +kernel
theorem dX9_tossWays_68 : decode cX9_tossWays 68 = .ok (.iadd, 1) := by decide +kernel
theorem dX9_tossWays_69 : decode cX9_tossWays 69 = .ok (.iastore, 1) := by decide +kernel
theorem dX9_tossWays_70 : decode cX9_tossWays 70 = .ok (.goto 28, 3) := by decide +kernel
theorem dX9_tossWays_73 : decode cX9_tossWays 73 = .ok (.iload_n 2, 1) := by decide +kernel
theorem dX9_tossWays_74 : decode cX9_tossWays 74 = .ok (.iload 5, 2) := by decide +kernel
theorem dX9_tossWays_76 : decode cX9_tossWays 76 = .ok (.aload_n 0, 1) := by decide +kernel
theorem dX9_tossWays_77 : decode cX9_tossWays 77 = .ok (.invokevirtual 122, 3) := by decide +kernel
theorem dX9_tossWays_80 : decode cX9_tossWays 80 = .ok (.iconst 1, 1) := by decide +kernel
theorem dX9_tossWays_81 : decode cX9_tossWays 81 = .ok (.isub, 1) := by decide +kernel
theorem dX9_tossWays_82 : decode cX9_tossWays 82 = .ok (.iand, 1) := by decide +kernel
theorem dX9_tossWays_83 : decode cX9_tossWays 83 = .ok (.invokestatic 157, 3) := by decide +kernel
theorem dX9_tossWays_86 : decode cX9_tossWays 86 = .ok (.ifCond .eq 12, 3) := by decide +kernel
theorem dX9_tossWays_89 : decode cX9_tossWays 89 = .ok (.iload_n 3, 1) := by decide +kernel
theorem dX9_tossWays_90 : decode cX9_tossWays 90 = .ok (.aload_n 0, 1) := by decide +kernel
theorem dX9_tossWays_91 : decode cX9_tossWays 91 = .ok (.getfield 39, 3) := by decide +kernel
theorem dX9_tossWays_94 : decode cX9_tossWays 94 = .ok (.iload_n 1, 1) := by decide +kernel
theorem dX9_tossWays_95 : decode cX9_tossWays 95 = .ok (.iaload, 1) := by decide +kernel
theorem dX9_tossWays_96 : decode cX9_tossWays 96 = .ok (.iadd, 1) := by decide +kernel
theorem dX9_tossWays_97 : decode cX9_tossWays 97 = .ok (.istore_n 3, 1) := by decide +kernel
theorem dX9_tossWays_98 : decode cX9_tossWays 98 = .ok (.iinc 4 1, 3) := by decide +kernel
theorem dX9_tossWays_101 : decode cX9_tossWays 101 = .ok (.goto (-96), 3) := by decide +kernel
theorem dX9_tossWays_104 : decode cX9_tossWays 104 = .ok (.iload_n 3, 1) := by decide +kernel
theorem dX9_tossWays_105 : decode cX9_tossWays 105 = .ok (.ireturn, 1) := by decide +kernel
theorem dX9_stateNow_0 : decode cX9_stateNow 0 = .ok (.aload_n 0, 1) := by decide +kernel
theorem dX9_stateNow_1 : decode cX9_stateNow 1 = .ok (.getfield 107, 3) := by decide +kernel
theorem dX9_stateNow_4 : decode cX9_stateNow 4 = .ok (.aload_n 0, 1) := by decide +kernel
theorem dX9_stateNow_5 : decode cX9_stateNow 5 = .ok (.getfield 98, 3) := by decide +kernel
theorem dX9_stateNow_8 : decode cX9_stateNow 8 = .ok (.iconst 1, 1) := by decide +kernel
theorem dX9_stateNow_9 : decode cX9_stateNow 9 = .ok (.isub, 1) := by decide +kernel
theorem dX9_stateNow_10 : decode cX9_stateNow 10 = .ok (.if_icmp .ge 10, 3) := by decide +kernel
theorem dX9_stateNow_13 : decode cX9_stateNow 13 = .ok (.aload_n 0, 1) := by decide +kernel
theorem dX9_stateNow_14 : decode cX9_stateNow 14 = .ok (.getfield 107, 3) := by decide +kernel
theorem dX9_stateNow_17 : decode cX9_stateNow 17 = .ok (.goto 9, 3) := by decide +kernel
theorem dX9_stateNow_20 : decode cX9_stateNow 20 = .ok (.aload_n 0, 1) := by decide +kernel
theorem dX9_stateNow_21 : decode cX9_stateNow 21 = .ok (.getfield 98, 3) := by decide +kernel
theorem dX9_stateNow_24 : decode cX9_stateNow 24 = .ok (.iconst 1, 1) := by decide +kernel
theorem dX9_stateNow_25 : decode cX9_stateNow 25 = .ok (.isub, 1) := by decide +kernel
theorem dX9_stateNow_26 : decode cX9_stateNow 26 = .ok (.istore_n 1, 1) := by decide +kernel
theorem dX9_stateNow_27 : decode cX9_stateNow 27 = .ok (.iconst 1, 1) := by decide +kernel
theorem dX9_stateNow_28 : decode cX9_stateNow 28 = .ok (.iload_n 1, 1) := by decide +kernel
theorem dX9_stateNow_29 : decode cX9_stateNow 29 = .ok (.ishl, 1) := by decide +kernel
theorem dX9_stateNow_30 : decode cX9_stateNow 30 = .ok (.aload_n 0, 1) := by decide +kernel
theorem dX9_stateNow_31 : decode cX9_stateNow 31 = .ok (.getfield 110, 3) := by decide +kernel
theorem dX9_stateNow_34 : decode cX9_stateNow 34 = .ok (.iconst 1, 1) := by decide +kernel
theorem dX9_stateNow_35 : decode cX9_stateNow 35 = .ok (.iload_n 1, 1) := by decide +kernel
theorem dX9_stateNow_36 : decode cX9_stateNow 36 = .ok (.ishl, 1) := by decide +kernel
theorem dX9_stateNow_37 : decode cX9_stateNow 37 = .ok (.iconst 1, 1) := by decide +kernel
theorem dX9_stateNow_38 : decode cX9_stateNow 38 = .ok (.isub, 1) := by decide +kernel
theorem dX9_stateNow_39 : decode cX9_stateNow 39 = .ok (.iand, 1) := by decide +kernel
theorem dX9_stateNow_40 : decode cX9_stateNow 40 = .ok (.ior, 1) := by decide +kernel
theorem dX9_stateNow_41 : decode cX9_stateNow 41 = .ok (.ireturn, 1) := by decide +kernel
theorem dX9_oddsNow_0 : decode cX9_oddsNow 0 = .ok (.iconst 0, 1) := by decide +kernel
theorem dX9_oddsNow_1 : decode cX9_oddsNow 1 = .ok (.istore 4, 2) := by decide +kernel
theorem dX9_oddsNow_3 : decode cX9_oddsNow 3 = .ok (.iload 4, 2) := by decide +kernel
theorem dX9_oddsNow_5 : decode cX9_oddsNow 5 = .ok (.bipush 16, 2) := by decide +kernel
theorem dX9_oddsNow_7 : decode cX9_oddsNow 7 = .ok (.if_icmp .ge 17, 3) := by decide +kernel
theorem dX9_oddsNow_10 : decode cX9_oddsNow 10 = .ok (.aload_n 0, 1) := by decide +kernel
theorem dX9_oddsNow_11 : decode cX9_oddsNow 11 = .ok (.getfield 39, 3) := by decide +kernel
theorem dX9_oddsNow_14 : decode cX9_oddsNow 14 = .ok (.iload 4, 2) := by decide +kernel
theorem dX9_oddsNow_16 : decode cX9_oddsNow 16 = .ok (.iconst 0, 1) := by decide +kernel
theorem dX9_oddsNow_17 : decode cX9_oddsNow 17 = .ok (.iastore, 1) := by decide +kernel
theorem dX9_oddsNow_18 : decode cX9_oddsNow 18 = .ok (.iinc 4 1, 3) := by decide +kernel
theorem dX9_oddsNow_21 : decode cX9_oddsNow 21 = .ok (.goto (-18), 3) := by decide +kernel
theorem dX9_oddsNow_24 : decode cX9_oddsNow 24 = .ok (.aload_n 0, 1) := by decide +kernel
theorem dX9_oddsNow_25 : decode cX9_oddsNow 25 = .ok (.getfield 39, 3) := by decide +kernel
theorem dX9_oddsNow_28 : decode cX9_oddsNow 28 = .ok (.aload_n 0, 1) := by decide +kernel
theorem dX9_oddsNow_29 : decode cX9_oddsNow 29 = .ok (.invokevirtual 223, 3) := by decide +kernel
theorem dX9_oddsNow_32 : decode cX9_oddsNow 32 = .ok (.iconst 1, 1) := by decide +kernel
theorem dX9_oddsNow_33 : decode cX9_oddsNow 33 = .ok (.iastore, 1) := by decide +kernel
theorem dX9_oddsNow_34 : decode cX9_oddsNow 34 = .ok (.iconst 0, 1) := by decide +kernel
theorem dX9_oddsNow_35 : decode cX9_oddsNow 35 = .ok (.istore 4, 2) := by decide +kernel
theorem dX9_oddsNow_37 : decode cX9_oddsNow 37 = .ok (.iload_n 2, 1) := by decide +kernel
theorem dX9_oddsNow_38 : decode cX9_oddsNow 38 = .ok (.iconst 1, 1) := by decide +kernel
theorem dX9_oddsNow_39 : decode cX9_oddsNow 39 = .ok (.isub, 1) := by decide +kernel
theorem dX9_oddsNow_40 : decode cX9_oddsNow 40 = .ok (.istore 5, 2) := by decide +kernel
theorem dX9_oddsNow_42 : decode cX9_oddsNow 42 = .ok (.iload 5, 2) := by decide +kernel
theorem dX9_oddsNow_44 : decode cX9_oddsNow 44 = .ok (.ifCond .lt 114, 3) := by decide +kernel
theorem dX9_oddsNow_47 : decode cX9_oddsNow 47 = .ok (.iconst 0, 1) := by decide +kernel
theorem dX9_oddsNow_48 : decode cX9_oddsNow 48 = .ok (.istore 6, 2) := by decide +kernel
theorem dX9_oddsNow_50 : decode cX9_oddsNow 50 = .ok (.iload 6, 2) := by decide +kernel
theorem dX9_oddsNow_52 : decode cX9_oddsNow 52 = .ok (.bipush 16, 2) := by decide +kernel
theorem dX9_oddsNow_54 : decode cX9_oddsNow 54 = .ok (.if_icmp .ge 17, 3) := by decide +kernel
theorem dX9_oddsNow_57 : decode cX9_oddsNow 57 = .ok (.aload_n 0, 1) := by decide +kernel
theorem dX9_oddsNow_58 : decode cX9_oddsNow 58 = .ok (.getfield 42, 3) := by decide +kernel
theorem dX9_oddsNow_61 : decode cX9_oddsNow 61 = .ok (.iload 6, 2) := by decide +kernel
theorem dX9_oddsNow_63 : decode cX9_oddsNow 63 = .ok (.iconst 0, 1) := by decide +kernel
theorem dX9_oddsNow_64 : decode cX9_oddsNow 64 = .ok (.iastore, 1) := by decide +kernel
theorem dX9_oddsNow_65 : decode cX9_oddsNow 65 = .ok (.iinc 6 1, 3) := by decide +kernel
theorem dX9_oddsNow_68 : decode cX9_oddsNow 68 = .ok (.goto (-18), 3) := by decide +kernel
theorem dX9_oddsNow_71 : decode cX9_oddsNow 71 = .ok (.iconst 1, 1) := by decide +kernel
theorem dX9_oddsNow_72 : decode cX9_oddsNow 72 = .ok (.istore 6, 2) := by decide +kernel
theorem dX9_oddsNow_74 : decode cX9_oddsNow 74 = .ok (.iload 6, 2) := by decide +kernel
theorem dX9_oddsNow_76 : decode cX9_oddsNow 76 = .ok (.aload_n 0, 1) := by decide +kernel
theorem dX9_oddsNow_77 : decode cX9_oddsNow 77 = .ok (.invokevirtual 122, 3) := by decide +kernel
theorem dX9_oddsNow_80 : decode cX9_oddsNow 80 = .ok (.if_icmp .ge 42, 3) := by decide +kernel
theorem dX9_oddsNow_83 : decode cX9_oddsNow 83 = .ok (.iload 4, 2) := by decide +kernel
theorem dX9_oddsNow_85 : decode cX9_oddsNow 85 = .ok (.aload_n 0, 1) := by decide +kernel
theorem dX9_oddsNow_86 : decode cX9_oddsNow 86 = .ok (.getfield 39, 3) := by decide +kernel
theorem dX9_oddsNow_89 : decode cX9_oddsNow 89 = .ok (.iload 6, 2) := by decide +kernel
theorem dX9_oddsNow_91 : decode cX9_oddsNow 91 = .ok (.iaload, 1) := by decide +kernel
theorem dX9_oddsNow_92 : decode cX9_oddsNow 92 = .ok (.ifCond .le 20, 3) := by decide +kernel
theorem dX9_oddsNow_95 : decode cX9_oddsNow 95 = .ok (.aload_n 0, 1) := by decide +kernel
theorem dX9_oddsNow_96 : decode cX9_oddsNow 96 = .ok (.iload 6, 2) := by decide +kernel
theorem dX9_oddsNow_98 : decode cX9_oddsNow 98 = .ok (.aload_n 0, 1) := by decide +kernel
theorem dX9_oddsNow_99 : decode cX9_oddsNow 99 = .ok (.iload_n 1, 1) := by decide +kernel
theorem dX9_oddsNow_100 : decode cX9_oddsNow 100 = .ok (.invokevirtual 132, 3) := by decide +kernel
theorem dX9_oddsNow_103 : decode cX9_oddsNow 103 = .ok (.invokevirtual 226, 3) := by decide +kernel
theorem dX9_oddsNow_106 : decode cX9_oddsNow 106 = .ok (.iload 5, 2) := by decide +kernel
theorem dX9_oddsNow_108 : decode cX9_oddsNow 108 = .ok (.ishl, 1) := by decide +kernel
theorem dX9_oddsNow_109 : decode cX9_oddsNow 109 = .ok (.goto 4, 3) := by decide +kernel
theorem dX9_oddsNow_112 : decode cX9_oddsNow 112 = .ok (.iconst 0, 1) := by decide +kernel
theorem dX9_oddsNow_113 : decode cX9_oddsNow 113 = .ok (.iadd, 1) := by decide +kernel
theorem dX9_oddsNow_114 : decode cX9_oddsNow 114 = .ok (.istore 4, 2) := by decide +kernel
theorem dX9_oddsNow_116 : decode cX9_oddsNow 116 = .ok (.iinc 6 1, 3) := by decide +kernel
theorem dX9_oddsNow_119 : decode cX9_oddsNow 119 = .ok (.goto (-45), 3) := by decide +kernel
theorem dX9_oddsNow_122 : decode cX9_oddsNow 122 = .ok (.iconst 0, 1) := by decide +kernel
theorem dX9_oddsNow_123 : decode cX9_oddsNow 123 = .ok (.istore 6, 2) := by decide +kernel
theorem dX9_oddsNow_125 : decode cX9_oddsNow 125 = .ok (.iload 6, 2) := by decide +kernel
theorem dX9_oddsNow_127 : decode cX9_oddsNow 127 = .ok (.bipush 16, 2) := by decide +kernel
theorem dX9_oddsNow_129 : decode cX9_oddsNow 129 = .ok (.if_icmp .ge 23, 3) := by decide +kernel
theorem dX9_oddsNow_132 : decode cX9_oddsNow 132 = .ok (.aload_n 0, 1) := by decide +kernel
theorem dX9_oddsNow_133 : decode cX9_oddsNow 133 = .ok (.getfield 39, 3) := by decide +kernel
theorem dX9_oddsNow_136 : decode cX9_oddsNow 136 = .ok (.iload 6, 2) := by decide +kernel
theorem dX9_oddsNow_138 : decode cX9_oddsNow 138 = .ok (.aload_n 0, 1) := by decide +kernel
theorem dX9_oddsNow_139 : decode cX9_oddsNow 139 = .ok (.getfield 42, 3) := by decide +kernel
theorem dX9_oddsNow_142 : decode cX9_oddsNow 142 = .ok (.iload 6, 2) := by decide +kernel
theorem dX9_oddsNow_144 : decode cX9_oddsNow 144 = .ok (.iaload, 1) := by decide +kernel
theorem dX9_oddsNow_145 : decode cX9_oddsNow 145 = .ok (.iastore, 1) := by decide +kernel
theorem dX9_oddsNow_146 : decode cX9_oddsNow 146 = .ok (.iinc 6 1, 3) := by decide +kernel
theorem dX9_oddsNow_149 : decode cX9_oddsNow 149 = .ok (.goto (-24), 3) := by decide +kernel
theorem dX9_oddsNow_152 : decode cX9_oddsNow 152 = .ok (.iinc 5 (-1), 3) := by decide +kernel
theorem dX9_oddsNow_155 : decode cX9_oddsNow 155 = .ok (.goto (-113), 3) := by decide +kernel
theorem dX9_oddsNow_158 : decode cX9_oddsNow 158 = .ok (.iconst 1, 1) := by decide +kernel
theorem dX9_oddsNow_159 : decode cX9_oddsNow 159 = .ok (.iload_n 2, 1) := by decide +kernel
theorem dX9_oddsNow_160 : decode cX9_oddsNow 160 = .ok (.ishl, 1) := by decide +kernel
theorem dX9_oddsNow_161 : decode cX9_oddsNow 161 = .ok (.istore 5, 2) := by decide +kernel
theorem dX9_oddsNow_163 : decode cX9_oddsNow 163 = .ok (.iload 4, 2) := by decide +kernel
theorem dX9_oddsNow_165 : decode cX9_oddsNow 165 = .ok (.iload 5, 2) := by decide +kernel
theorem dX9_oddsNow_167 : decode cX9_oddsNow 167 = .ok (.invokestatic 229, 3) := by decide +kernel
theorem dX9_oddsNow_170 : decode cX9_oddsNow 170 = .ok (.istore 6, 2) := by decide +kernel
theorem dX9_oddsNow_172 : decode cX9_oddsNow 172 = .ok (.iload_n 3, 1) := by decide +kernel
theorem dX9_oddsNow_173 : decode cX9_oddsNow 173 = .ok (.ifCond .ne 11, 3) := by decide +kernel
theorem dX9_oddsNow_176 : decode cX9_oddsNow 176 = .ok (.iload 4, 2) := by decide +kernel
theorem dX9_oddsNow_178 : decode cX9_oddsNow 178 = .ok (.iload 6, 2) := by decide +kernel
theorem dX9_oddsNow_180 : decode cX9_oddsNow 180 = .ok (.idiv, 1) := by decide +kernel
theorem dX9_oddsNow_181 : decode cX9_oddsNow 181 = .ok (.goto 8, 3) := by decide +kernel
theorem dX9_oddsNow_184 : decode cX9_oddsNow 184 = .ok (.iload 5, 2) := by decide +kernel
theorem dX9_oddsNow_186 : decode cX9_oddsNow 186 = .ok (.iload 6, 2) := by decide +kernel
theorem dX9_oddsNow_188 : decode cX9_oddsNow 188 = .ok (.idiv, 1) := by decide +kernel
theorem dX9_oddsNow_189 : decode cX9_oddsNow 189 = .ok (.ireturn, 1) := by decide +kernel
theorem dX9_odds_0 : decode cX9_odds 0 = .ok (.aload_n 0, 1) := by decide +kernel
theorem dX9_odds_1 : decode cX9_odds 1 = .ok (.iload_n 1, 1) := by decide +kernel
theorem dX9_odds_2 : decode cX9_odds 2 = .ok (.invokevirtual 147, 3) := by decide +kernel
theorem dX9_odds_5 : decode cX9_odds 5 = .ok (.ifCond .ne 6, 3) := by decide +kernel
theorem dX9_odds_8 : decode cX9_odds 8 = .ok (.bipush (-101), 2) := by decide +kernel
theorem dX9_odds_10 : decode cX9_odds 10 = .ok (.ireturn, 1) := by decide +kernel
theorem dX9_odds_11 : decode cX9_odds 11 = .ok (.iload_n 2, 1) := by decide +kernel
theorem dX9_odds_12 : decode cX9_odds 12 = .ok (.iconst 1, 1) := by decide +kernel
theorem dX9_odds_13 : decode cX9_odds 13 = .ok (.bipush 20, 2) := by decide +kernel
theorem dX9_odds_15 : decode cX9_odds 15 = .ok (.invokestatic 66, 3) := by decide +kernel
theorem dX9_odds_18 : decode cX9_odds 18 = .ok (.ifCond .eq 22, 3) := by decide +kernel
theorem dX9_odds_21 : decode cX9_odds 21 = .ok (.iload_n 3, 1) := by decide +kernel
theorem dX9_odds_22 : decode cX9_odds 22 = .ok (.iconst 0, 1) := by decide +kernel
theorem dX9_odds_23 : decode cX9_odds 23 = .ok (.iconst 1, 1) := by decide +kernel
theorem dX9_odds_24 : decode cX9_odds 24 = .ok (.invokestatic 66, 3) := by decide +kernel
theorem dX9_odds_27 : decode cX9_odds 27 = .ok (.ifCond .eq 13, 3) := by decide +kernel
theorem dX9_odds_30 : decode cX9_odds 30 = .ok (.aload_n 0, 1) := by decide +kernel
theorem dX9_odds_31 : decode cX9_odds 31 = .ok (.iload_n 1, 1) := by decide +kernel
theorem dX9_odds_32 : decode cX9_odds 32 = .ok (.iload_n 2, 1) := by decide +kernel
theorem dX9_odds_33 : decode cX9_odds 33 = .ok (.iload_n 3, 1) := by decide +kernel
theorem dX9_odds_34 : decode cX9_odds 34 = .ok (.invokevirtual 232, 3) := by decide +kernel
theorem dX9_odds_37 : decode cX9_odds 37 = .ok (.goto 5, 3) := by decide +kernel
theorem dX9_odds_40 : decode cX9_odds 40 = .ok (.bipush (-102), 2) := by decide +kernel
theorem dX9_odds_42 : decode cX9_odds 42 = .ok (.ireturn, 1) := by decide +kernel
theorem dX9_see_0 : decode cX9_see 0 = .ok (.aload_n 0, 1) := by decide +kernel
theorem dX9_see_1 : decode cX9_see 1 = .ok (.iload_n 1, 1) := by decide +kernel
theorem dX9_see_2 : decode cX9_see 2 = .ok (.invokevirtual 147, 3) := by decide +kernel
theorem dX9_see_5 : decode cX9_see 5 = .ok (.ifCond .ne 6, 3) := by decide +kernel
theorem dX9_see_8 : decode cX9_see 8 = .ok (.bipush (-101), 2) := by decide +kernel
theorem dX9_see_10 : decode cX9_see 10 = .ok (.ireturn, 1) := by decide +kernel
theorem dX9_see_11 : decode cX9_see 11 = .ok (.aload_n 0, 1) := by decide +kernel
theorem dX9_see_12 : decode cX9_see 12 = .ok (.iload_n 2, 1) := by decide +kernel
theorem dX9_see_13 : decode cX9_see 13 = .ok (.invokevirtual 154, 3) := by decide +kernel
theorem dX9_see_16 : decode cX9_see 16 = .ok (.ifCond .ne 6, 3) := by decide +kernel
theorem dX9_see_19 : decode cX9_see 19 = .ok (.bipush (-102), 2) := by decide +kernel
theorem dX9_see_21 : decode cX9_see 21 = .ok (.ireturn, 1) := by decide +kernel
theorem dX9_see_22 : decode cX9_see 22 = .ok (.aload_n 0, 1) := by decide +kernel
theorem dX9_see_23 : decode cX9_see 23 = .ok (.getfield 119, 3) := by decide +kernel
theorem dX9_see_26 : decode cX9_see 26 = .ok (.bipush 6, 2) := by decide +kernel
theorem dX9_see_28 : decode cX9_see 28 = .ok (.if_icmp .ne 6, 3) := by decide +kernel
theorem dX9_see_31 : decode cX9_see 31 = .ok (.bipush (-104), 2) := by decide +kernel
theorem dX9_see_33 : decode cX9_see 33 = .ok (.ireturn, 1) := by decide +kernel
theorem dX9_see_34 : decode cX9_see 34 = .ok (.aload_n 0, 1) := by decide +kernel
theorem dX9_see_35 : decode cX9_see 35 = .ok (.getfield 19, 3) := by decide +kernel
theorem dX9_see_38 : decode cX9_see 38 = .ok (.aload_n 0, 1) := by decide +kernel
theorem dX9_see_39 : decode cX9_see 39 = .ok (.getfield 119, 3) := by decide +kernel
theorem dX9_see_42 : decode cX9_see 42 = .ok (.iload_n 1, 1) := by decide +kernel
theorem dX9_see_43 : decode cX9_see 43 = .ok (.iastore, 1) := by decide +kernel
theorem dX9_see_44 : decode cX9_see 44 = .ok (.aload_n 0, 1) := by decide +kernel
theorem dX9_see_45 : decode cX9_see 45 = .ok (.getfield 22, 3) := by decide +kernel
theorem dX9_see_48 : decode cX9_see 48 = .ok (.aload_n 0, 1) := by decide +kernel
theorem dX9_see_49 : decode cX9_see 49 = .ok (.getfield 119, 3) := by decide +kernel
theorem dX9_see_52 : decode cX9_see 52 = .ok (.iload_n 2, 1) := by decide +kernel
theorem dX9_see_53 : decode cX9_see 53 = .ok (.iastore, 1) := by decide +kernel
theorem dX9_see_54 : decode cX9_see 54 = .ok (.aload_n 0, 1) := by decide +kernel
theorem dX9_see_55 : decode cX9_see 55 = .ok (.getfield 25, 3) := by decide +kernel
theorem dX9_see_58 : decode cX9_see 58 = .ok (.aload_n 0, 1) := by decide +kernel
theorem dX9_see_59 : decode cX9_see 59 = .ok (.getfield 119, 3) := by decide +kernel
theorem dX9_see_62 : decode cX9_see 62 = .ok (.iload_n 3, 1) := by decide +kernel
theorem dX9_see_63 : decode cX9_see 63 = .ok (.ifCond .eq 7, 3) := by decide +kernel
theorem dX9_see_66 : decode cX9_see 66 = .ok (.iconst 1, 1) := by decide +kernel
theorem dX9_see_67 : decode cX9_see 67 = .ok (.goto 4, 3) := by decide +kernel
theorem dX9_see_70 : decode cX9_see 70 = .ok (.iconst 0, 1) := by decide +kernel
theorem dX9_see_71 : decode cX9_see 71 = .ok (.iastore, 1) := by decide +kernel
theorem dX9_see_72 : decode cX9_see 72 = .ok (.aload_n 0, 1) := by decide +kernel
theorem dX9_see_73 : decode cX9_see 73 = .ok (.dup, 1) := by decide +kernel
theorem dX9_see_74 : decode cX9_see 74 = .ok (.getfield 119, 3) := by decide +kernel
theorem dX9_see_77 : decode cX9_see 77 = .ok (.iconst 1, 1) := by decide +kernel
theorem dX9_see_78 : decode cX9_see 78 = .ok (.iadd, 1) := by decide +kernel
theorem dX9_see_79 : decode cX9_see 79 = .ok (.putfield 119, 3) := by decide +kernel
theorem dX9_see_82 : decode cX9_see 82 = .ok (.aload_n 0, 1) := by decide +kernel
theorem dX9_see_83 : decode cX9_see 83 = .ok (.getfield 119, 3) := by decide +kernel
theorem dX9_see_86 : decode cX9_see 86 = .ok (.ireturn, 1) := by decide +kernel
theorem dX9_forget_0 : decode cX9_forget 0 = .ok (.aload_n 0, 1) := by decide +kernel
theorem dX9_forget_1 : decode cX9_forget 1 = .ok (.getfield 119, 3) := by decide +kernel
theorem dX9_forget_4 : decode cX9_forget 4 = .ok (.istore_n 1, 1) := by decide +kernel
theorem dX9_forget_5 : decode cX9_forget 5 = .ok (.aload_n 0, 1) := by decide +kernel
theorem dX9_forget_6 : decode cX9_forget 6 = .ok (.iconst 0, 1) := by decide +kernel
theorem dX9_forget_7 : decode cX9_forget 7 = .ok (.putfield 119, 3) := by decide +kernel
theorem dX9_forget_10 : decode cX9_forget 10 = .ok (.iload_n 1, 1) := by decide +kernel
theorem dX9_forget_11 : decode cX9_forget 11 = .ok (.ireturn, 1) := by decide +kernel
theorem dX9_rowsOf_0 : decode cX9_rowsOf 0 = .ok (.iconst 0, 1) := by decide +kernel
theorem dX9_rowsOf_1 : decode cX9_rowsOf 1 = .ok (.istore_n 2, 1) := by decide +kernel
theorem dX9_rowsOf_2 : decode cX9_rowsOf 2 = .ok (.iconst 0, 1) := by decide +kernel
theorem dX9_rowsOf_3 : decode cX9_rowsOf 3 = .ok (.istore_n 3, 1) := by decide +kernel
theorem dX9_rowsOf_4 : decode cX9_rowsOf 4 = .ok (.iload_n 3, 1) := by decide +kernel
theorem dX9_rowsOf_5 : decode cX9_rowsOf 5 = .ok (.aload_n 0, 1) := by decide +kernel
theorem dX9_rowsOf_6 : decode cX9_rowsOf 6 = .ok (.invokevirtual 122, 3) := by decide +kernel
theorem dX9_rowsOf_9 : decode cX9_rowsOf 9 = .ok (.if_icmp .ge 99, 3) := by decide +kernel
theorem dX9_rowsOf_12 : decode cX9_rowsOf 12 = .ok (.iconst 1, 1) := by decide +kernel
theorem dX9_rowsOf_13 : decode cX9_rowsOf 13 = .ok (.istore 4, 2) := by decide +kernel
theorem dX9_rowsOf_15 : decode cX9_rowsOf 15 = .ok (.iconst 0, 1) := by decide +kernel
theorem dX9_rowsOf_16 : decode cX9_rowsOf 16 = .ok (.istore 5, 2) := by decide +kernel
theorem dX9_rowsOf_18 : decode cX9_rowsOf 18 = .ok (.iload 5, 2) := by decide +kernel
theorem dX9_rowsOf_20 : decode cX9_rowsOf 20 = .ok (.aload_n 0, 1) := by decide +kernel
theorem dX9_rowsOf_21 : decode cX9_rowsOf 21 = .ok (.getfield 119, 3) := by decide +kernel
theorem dX9_rowsOf_24 : decode cX9_rowsOf 24 = .ok (.if_icmp .ge 63, 3) := by decide +kernel
theorem dX9_rowsOf_27 : decode cX9_rowsOf 27 = .ok (.iload 4, 2) := by decide +kernel
theorem dX9_rowsOf_29 : decode cX9_rowsOf 29 = .ok (.ifCond .eq 49, 3) := by decide +kernel
theorem dX9_rowsOf_32 : decode cX9_rowsOf 32 = .ok (.aload_n 0, 1) := by decide +kernel
theorem dX9_rowsOf_33 : decode cX9_rowsOf 33 = .ok (.getfield 19, 3) := by decide +kernel
theorem dX9_rowsOf_36 : decode cX9_rowsOf 36 = .ok (.iload 5, 2) := by decide +kernel
theorem dX9_rowsOf_38 : decode cX9_rowsOf 38 = .ok (.iaload, 1) := by decide +kernel
theorem dX9_rowsOf_39 : decode cX9_rowsOf 39 = .ok (.iload_n 1, 1) := by decide +kernel
theorem dX9_rowsOf_40 : decode cX9_rowsOf 40 = .ok (.if_icmp .ne 34, 3) := by decide +kernel
theorem dX9_rowsOf_43 : decode cX9_rowsOf 43 = .ok (.aload_n 0, 1) := by decide +kernel
theorem dX9_rowsOf_44 : decode cX9_rowsOf 44 = .ok (.aload_n 0, 1) := by decide +kernel
theorem dX9_rowsOf_45 : decode cX9_rowsOf 45 = .ok (.getfield 7, 3) := by decide +kernel
theorem dX9_rowsOf_48 : decode cX9_rowsOf 48 = .ok (.iload_n 1, 1) := by decide +kernel
theorem dX9_rowsOf_49 : decode cX9_rowsOf 49 = .ok (.iaload, 1) := by decide +kernel
theorem dX9_rowsOf_50 : decode cX9_rowsOf 50 = .ok (.iload_n 3, 1) := by decide +kernel
theorem dX9_rowsOf_51 : decode cX9_rowsOf 51 = .ok (.invokevirtual 128, 3) := by decide +kernel
theorem dX9_rowsOf_54 : decode cX9_rowsOf 54 = .ok (.aload_n 0, 1) := by decide +kernel
theorem dX9_rowsOf_55 : decode cX9_rowsOf 55 = .ok (.getfield 22, 3) := by decide +kernel
theorem dX9_rowsOf_58 : decode cX9_rowsOf 58 = .ok (.iload 5, 2) := by decide +kernel
theorem dX9_rowsOf_60 : decode cX9_rowsOf 60 = .ok (.iaload, 1) := by decide +kernel
theorem dX9_rowsOf_61 : decode cX9_rowsOf 61 = .ok (.ishr, 1) := by decide +kernel
theorem dX9_rowsOf_62 : decode cX9_rowsOf 62 = .ok (.iconst 1, 1) := by decide +kernel
theorem dX9_rowsOf_63 : decode cX9_rowsOf 63 = .ok (.iand, 1) := by decide +kernel
theorem dX9_rowsOf_64 : decode cX9_rowsOf 64 = .ok (.aload_n 0, 1) := by decide +kernel
theorem dX9_rowsOf_65 : decode cX9_rowsOf 65 = .ok (.getfield 25, 3) := by decide +kernel
theorem dX9_rowsOf_68 : decode cX9_rowsOf 68 = .ok (.iload 5, 2) := by decide +kernel
theorem dX9_rowsOf_70 : decode cX9_rowsOf 70 = .ok (.iaload, 1) := by decide +kernel
theorem dX9_rowsOf_71 : decode cX9_rowsOf 71 = .ok (.if_icmp .ne 7, 3) := by decide +kernel
theorem dX9_rowsOf_74 : decode cX9_rowsOf 74 = .ok (.iconst 1, 1) := by decide +kernel
theorem dX9_rowsOf_75 : decode cX9_rowsOf 75 = .ok (.goto 4, 3) := by decide +kernel
theorem dX9_rowsOf_78 : decode cX9_rowsOf 78 = .ok (.iconst 0, 1) := by decide +kernel
theorem dX9_rowsOf_79 : decode cX9_rowsOf 79 = .ok (.istore 4, 2) := by decide +kernel
theorem dX9_rowsOf_81 : decode cX9_rowsOf 81 = .ok (.iinc 5 1, 3) := by decide +kernel
theorem dX9_rowsOf_84 : decode cX9_rowsOf 84 = .ok (.goto (-66), 3) := by decide +kernel
theorem dX9_rowsOf_87 : decode cX9_rowsOf 87 = .ok (.iload_n 2, 1) := by decide +kernel
theorem dX9_rowsOf_88 : decode cX9_rowsOf 88 = .ok (.iload 4, 2) := by decide +kernel
theorem dX9_rowsOf_90 : decode cX9_rowsOf 90 = .ok (.ifCond .eq 9, 3) := by decide +kernel
theorem dX9_rowsOf_93 : decode cX9_rowsOf 93 = .ok (.iconst 1, 1) := by decide +kernel
theorem dX9_rowsOf_94 : decode cX9_rowsOf 94 = .ok (.iload_n 3, 1) := by decide +kernel
theorem dX9_rowsOf_95 : decode cX9_rowsOf 95 = .ok (.ishl, 1) := by decide +kernel
theorem dX9_rowsOf_96 : decode cX9_rowsOf 96 = .ok (.goto 4, 3) := by decide +kernel
theorem dX9_rowsOf_99 : decode cX9_rowsOf 99 = .ok (.iconst 0, 1) := by decide +kernel
theorem dX9_rowsOf_100 : decode cX9_rowsOf 100 = .ok (.ior, 1) := by decide +kernel
theorem dX9_rowsOf_101 : decode cX9_rowsOf 101 = .ok (.istore_n 2, 1) := by decide +kernel
theorem dX9_rowsOf_102 : decode cX9_rowsOf 102 = .ok (.iinc 3 1, 3) := by decide +kernel
theorem dX9_rowsOf_105 : decode cX9_rowsOf 105 = .ok (.goto (-101), 3) := by decide +kernel
theorem dX9_rowsOf_108 : decode cX9_rowsOf 108 = .ok (.iload_n 2, 1) := by decide +kernel
theorem dX9_rowsOf_109 : decode cX9_rowsOf 109 = .ok (.ireturn, 1) := by decide +kernel
theorem dX9_tryFor_0 : decode cX9_tryFor 0 = .ok (.aload_n 0, 1) := by decide +kernel
theorem dX9_tryFor_1 : decode cX9_tryFor 1 = .ok (.iload_n 1, 1) := by decide +kernel
theorem dX9_tryFor_2 : decode cX9_tryFor 2 = .ok (.invokevirtual 141, 3) := by decide +kernel
theorem dX9_tryFor_5 : decode cX9_tryFor 5 = .ok (.istore_n 2, 1) := by decide +kernel
theorem dX9_tryFor_6 : decode cX9_tryFor 6 = .ok (.iconst (-1), 1) := by decide +kernel
theorem dX9_tryFor_7 : decode cX9_tryFor 7 = .ok (.istore_n 3, 1) := by decide +kernel
theorem dX9_tryFor_8 : decode cX9_tryFor 8 = .ok (.ldc 200, 2) := by decide +kernel
theorem dX9_tryFor_10 : decode cX9_tryFor 10 = .ok (.istore 4, 2) := by decide +kernel
theorem dX9_tryFor_12 : decode cX9_tryFor 12 = .ok (.iconst 0, 1) := by decide +kernel
theorem dX9_tryFor_13 : decode cX9_tryFor 13 = .ok (.istore 5, 2) := by decide +kernel
theorem dX9_tryFor_15 : decode cX9_tryFor 15 = .ok (.iload 5, 2) := by decide +kernel
theorem dX9_tryFor_17 : decode cX9_tryFor 17 = .ok (.aload_n 0, 1) := by decide +kernel
theorem dX9_tryFor_18 : decode cX9_tryFor 18 = .ok (.invokevirtual 122, 3) := by decide +kernel
theorem dX9_tryFor_21 : decode cX9_tryFor 21 = .ok (.if_icmp .ge 124, 3) := by decide +kernel
theorem dX9_tryFor_24 : decode cX9_tryFor 24 = .ok (.iload_n 2, 1) := by decide +kernel
theorem dX9_tryFor_25 : decode cX9_tryFor 25 = .ok (.ifCond .eq 120, 3) := by decide +kernel
theorem dX9_tryFor_28 : decode cX9_tryFor 28 = .ok (.iconst 0, 1) := by decide +kernel
theorem dX9_tryFor_29 : decode cX9_tryFor 29 = .ok (.istore 6, 2) := by decide +kernel
theorem dX9_tryFor_31 : decode cX9_tryFor 31 = .ok (.iconst 0, 1) := by decide +kernel
theorem dX9_tryFor_32 : decode cX9_tryFor 32 = .ok (.istore 7, 2) := by decide +kernel
theorem dX9_tryFor_34 : decode cX9_tryFor 34 = .ok (.iload 7, 2) := by decide +kernel
theorem dX9_tryFor_36 : decode cX9_tryFor 36 = .ok (.aload_n 0, 1) := by decide +kernel
theorem dX9_tryFor_37 : decode cX9_tryFor 37 = .ok (.invokevirtual 122, 3) := by decide +kernel
theorem dX9_tryFor_40 : decode cX9_tryFor 40 = .ok (.if_icmp .ge 44, 3) := by decide +kernel
theorem dX9_tryFor_43 : decode cX9_tryFor 43 = .ok (.iload 6, 2) := by decide +kernel
theorem dX9_tryFor_45 : decode cX9_tryFor 45 = .ok (.iload_n 2, 1) := by decide +kernel
theorem dX9_tryFor_46 : decode cX9_tryFor 46 = .ok (.iload 7, 2) := by decide +kernel
theorem dX9_tryFor_48 : decode cX9_tryFor 48 = .ok (.invokestatic 157, 3) := by decide +kernel
theorem dX9_tryFor_51 : decode cX9_tryFor 51 = .ok (.ifCond .eq 23, 3) := by decide +kernel
theorem dX9_tryFor_54 : decode cX9_tryFor 54 = .ok (.aload_n 0, 1) := by decide +kernel
theorem dX9_tryFor_55 : decode cX9_tryFor 55 = .ok (.aload_n 0, 1) := by decide +kernel
theorem dX9_tryFor_56 : decode cX9_tryFor 56 = .ok (.getfield 7, 3) := by decide +kernel
theorem dX9_tryFor_59 : decode cX9_tryFor 59 = .ok (.iload_n 1, 1) := by decide +kernel
theorem dX9_tryFor_60 : decode cX9_tryFor 60 = .ok (.iaload, 1) := by decide +kernel
theorem dX9_tryFor_61 : decode cX9_tryFor 61 = .ok (.iload 7, 2) := by decide +kernel
theorem dX9_tryFor_63 : decode cX9_tryFor 63 = .ok (.invokevirtual 128, 3) := by decide +kernel
theorem dX9_tryFor_66 : decode cX9_tryFor 66 = .ok (.iload 5, 2) := by decide +kernel
theorem dX9_tryFor_68 : decode cX9_tryFor 68 = .ok (.ishr, 1) := by decide +kernel
theorem dX9_tryFor_69 : decode cX9_tryFor 69 = .ok (.iconst 1, 1) := by decide +kernel
theorem dX9_tryFor_70 : decode cX9_tryFor 70 = .ok (.iand, 1) := by decide +kernel
theorem dX9_tryFor_71 : decode cX9_tryFor 71 = .ok (.goto 4, 3) := by decide +kernel
theorem dX9_tryFor_74 : decode cX9_tryFor 74 = .ok (.iconst 0, 1) := by decide +kernel
theorem dX9_tryFor_75 : decode cX9_tryFor 75 = .ok (.iadd, 1) := by decide +kernel
theorem dX9_tryFor_76 : decode cX9_tryFor 76 = .ok (.istore 6, 2) := by decide +kernel
theorem dX9_tryFor_78 : decode cX9_tryFor 78 = .ok (.iinc 7 1, 3) := by decide +kernel
theorem dX9_tryFor_81 : decode cX9_tryFor 81 = .ok (.goto (-47), 3) := by decide +kernel
theorem dX9_tryFor_84 : decode cX9_tryFor 84 = .ok (.iload_n 2, 1) := by decide +kernel
theorem dX9_tryFor_85 : decode cX9_tryFor 85 = .ok (.invokestatic 138, 3) := by decide +kernel
theorem dX9_tryFor_88 : decode cX9_tryFor 88 = .ok (.iload 6, 2) := by decide +kernel
theorem dX9_tryFor_90 : decode cX9_tryFor 90 = .ok (.isub, 1) := by decide +kernel
theorem dX9_tryFor_91 : decode cX9_tryFor 91 = .ok (.istore 7, 2) := by decide +kernel
theorem dX9_tryFor_93 : decode cX9_tryFor 93 = .ok (.iload 6, 2) := by decide +kernel
theorem dX9_tryFor_95 : decode cX9_tryFor 95 = .ok (.iload 7, 2) := by decide +kernel
theorem dX9_tryFor_97 : decode cX9_tryFor 97 = .ok (.if_icmp .le 8, 3) := by decide +kernel
theorem dX9_tryFor_100 : decode cX9_tryFor 100 = .ok (.iload 6, 2) := by decide +kernel
theorem dX9_tryFor_102 : decode cX9_tryFor 102 = .ok (.goto 5, 3) := by decide +kernel
theorem dX9_tryFor_105 : decode cX9_tryFor 105 = .ok (.iload 7, 2) := by decide +kernel
theorem dX9_tryFor_107 : decode cX9_tryFor 107 = .ok (.istore 8, 2) := by decide +kernel
theorem dX9_tryFor_109 : decode cX9_tryFor 109 = .ok (.iload 8, 2) := by decide +kernel
theorem dX9_tryFor_111 : decode cX9_tryFor 111 = .ok (.iload 4, 2) := by decide +kernel
theorem dX9_tryFor_113 : decode cX9_tryFor 113 = .ok (.if_icmp .ge 8, 3) := by decide +kernel
theorem dX9_tryFor_116 : decode cX9_tryFor 116 = .ok (.iload 5, 2) := by decide +kernel
theorem dX9_tryFor_118 : decode cX9_tryFor 118 = .ok (.goto 4, 3) := by decide +kernel
theorem dX9_tryFor_121 : decode cX9_tryFor 121 = .ok (.iload_n 3, 1) := by decide +kernel
theorem dX9_tryFor_122 : decode cX9_tryFor 122 = .ok (.istore_n 3, 1) := by decide +kernel
theorem dX9_tryFor_123 : decode cX9_tryFor 123 = .ok (.iload 8, 2) := by decide +kernel
theorem dX9_tryFor_125 : decode cX9_tryFor 125 = .ok (.iload 4, 2) := by decide +kernel
theorem dX9_tryFor_127 : decode cX9_tryFor 127 = .ok (.if_icmp .ge 8, 3) := by decide +kernel
theorem dX9_tryFor_130 : decode cX9_tryFor 130 = .ok (.iload 8, 2) := by decide +kernel
theorem dX9_tryFor_132 : decode cX9_tryFor 132 = .ok (.goto 5, 3) := by decide +kernel
theorem dX9_tryFor_135 : decode cX9_tryFor 135 = .ok (.iload 4, 2) := by decide +kernel
theorem dX9_tryFor_137 : decode cX9_tryFor 137 = .ok (.istore 4, 2) := by decide +kernel
theorem dX9_tryFor_139 : decode cX9_tryFor 139 = .ok (.iinc 5 1, 3) := by decide +kernel
theorem dX9_tryFor_142 : decode cX9_tryFor 142 = .ok (.goto (-127), 3) := by decide +kernel
theorem dX9_tryFor_145 : decode cX9_tryFor 145 = .ok (.iload_n 3, 1) := by decide +kernel
theorem dX9_tryFor_146 : decode cX9_tryFor 146 = .ok (.ireturn, 1) := by decide +kernel
theorem dX9_draw_0 : decode cX9_draw 0 = .ok (.aload_n 0, 1) := by decide +kernel
theorem dX9_draw_1 : decode cX9_draw 1 = .ok (.ldc2_w 236, 3) := by decide +kernel
theorem dX9_draw_4 : decode cX9_draw 4 = .ok (.aload_n 0, 1) := by decide +kernel
theorem dX9_draw_5 : decode cX9_draw 5 = .ok (.getfield 238, 3) := by decide +kernel
theorem dX9_draw_8 : decode cX9_draw 8 = .ok (.lmul, 1) := by decide +kernel
theorem dX9_draw_9 : decode cX9_draw 9 = .ok (.ldc2_w 242, 3) := by decide +kernel
theorem dX9_draw_12 : decode cX9_draw 12 = .ok (.ladd, 1) := by decide +kernel
theorem dX9_draw_13 : decode cX9_draw 13 = .ok (.ldc2_w 244, 3) := by decide +kernel
theorem dX9_draw_16 : decode cX9_draw 16 = .ok (.land, 1) := by decide +kernel
theorem dX9_draw_17 : decode cX9_draw 17 = .ok (.putfield 238, 3) := by decide +kernel
theorem dX9_draw_20 : decode cX9_draw 20 = .ok (.aload_n 0, 1) := by decide +kernel
theorem dX9_draw_21 : decode cX9_draw 21 = .ok (.getfield 238, 3) := by decide +kernel
theorem dX9_draw_24 : decode cX9_draw 24 = .ok (.ldc2_w 246, 3) := by decide +kernel
theorem dX9_draw_27 : decode cX9_draw 27 = .ok (.ldiv, 1) := by decide +kernel
theorem dX9_draw_28 : decode cX9_draw 28 = .ok (.iload_n 1, 1) := by decide +kernel
theorem dX9_draw_29 : decode cX9_draw 29 = .ok (.i2l, 1) := by decide +kernel
theorem dX9_draw_30 : decode cX9_draw 30 = .ok (.lrem, 1) := by decide +kernel
theorem dX9_draw_31 : decode cX9_draw 31 = .ok (.l2i, 1) := by decide +kernel
theorem dX9_draw_32 : decode cX9_draw 32 = .ok (.ireturn, 1) := by decide +kernel
theorem dX9_mostWon_0 : decode cX9_mostWon 0 = .ok (.iconst 0, 1) := by decide +kernel
theorem dX9_mostWon_1 : decode cX9_mostWon 1 = .ok (.istore_n 1, 1) := by decide +kernel
theorem dX9_mostWon_2 : decode cX9_mostWon 2 = .ok (.iconst 1, 1) := by decide +kernel
theorem dX9_mostWon_3 : decode cX9_mostWon 3 = .ok (.istore_n 2, 1) := by decide +kernel
theorem dX9_mostWon_4 : decode cX9_mostWon 4 = .ok (.iload_n 2, 1) := by decide +kernel
theorem dX9_mostWon_5 : decode cX9_mostWon 5 = .ok (.aload_n 0, 1) := by decide +kernel
theorem dX9_mostWon_6 : decode cX9_mostWon 6 = .ok (.getfield 101, 3) := by decide +kernel
theorem dX9_mostWon_9 : decode cX9_mostWon 9 = .ok (.if_icmp .ge 30, 3) := by decide +kernel
theorem dX9_mostWon_12 : decode cX9_mostWon 12 = .ok (.aload_n 0, 1) := by decide +kernel
theorem dX9_mostWon_13 : decode cX9_mostWon 13 = .ok (.getfield 45, 3) := by decide +kernel
theorem dX9_mostWon_16 : decode cX9_mostWon 16 = .ok (.iload_n 2, 1) := by decide +kernel
theorem dX9_mostWon_17 : decode cX9_mostWon 17 = .ok (.iaload, 1) := by decide +kernel
theorem dX9_mostWon_18 : decode cX9_mostWon 18 = .ok (.aload_n 0, 1) := by decide +kernel
theorem dX9_mostWon_19 : decode cX9_mostWon 19 = .ok (.getfield 45, 3) := by decide +kernel
theorem dX9_mostWon_22 : decode cX9_mostWon 22 = .ok (.iload_n 1, 1) := by decide +kernel
theorem dX9_mostWon_23 : decode cX9_mostWon 23 = .ok (.iaload, 1) := by decide +kernel
theorem dX9_mostWon_24 : decode cX9_mostWon 24 = .ok (.if_icmp .le 7, 3) := by decide +kernel
theorem dX9_mostWon_27 : decode cX9_mostWon 27 = .ok (.iload_n 2, 1) := by decide +kernel
theorem dX9_mostWon_28 : decode cX9_mostWon 28 = .ok (.goto 4, 3) := by decide +kernel
theorem dX9_mostWon_31 : decode cX9_mostWon 31 = .ok (.iload_n 1, 1) := by decide +kernel
theorem dX9_mostWon_32 : decode cX9_mostWon 32 = .ok (.istore_n 1, 1) := by decide +kernel
theorem dX9_mostWon_33 : decode cX9_mostWon 33 = .ok (.iinc 2 1, 3) := by decide +kernel
theorem dX9_mostWon_36 : decode cX9_mostWon 36 = .ok (.goto (-32), 3) := by decide +kernel
theorem dX9_mostWon_39 : decode cX9_mostWon 39 = .ok (.iload_n 1, 1) := by decide +kernel
theorem dX9_mostWon_40 : decode cX9_mostWon 40 = .ok (.ireturn, 1) := by decide +kernel
theorem dX9_gamesNow_0 : decode cX9_gamesNow 0 = .ok (.aload_n 0, 1) := by decide +kernel
theorem dX9_gamesNow_1 : decode cX9_gamesNow 1 = .ok (.iload_n 2, 1) := by decide +kernel
theorem dX9_gamesNow_2 : decode cX9_gamesNow 2 = .ok (.i2l, 1) := by decide +kernel
theorem dX9_gamesNow_3 : decode cX9_gamesNow 3 = .ok (.putfield 238, 3) := by decide +kernel
theorem dX9_gamesNow_6 : decode cX9_gamesNow 6 = .ok (.aload_n 0, 1) := by decide +kernel
theorem dX9_gamesNow_7 : decode cX9_gamesNow 7 = .ok (.getfield 107, 3) := by decide +kernel
theorem dX9_gamesNow_10 : decode cX9_gamesNow 10 = .ok (.istore 4, 2) := by decide +kernel
theorem dX9_gamesNow_12 : decode cX9_gamesNow 12 = .ok (.aload_n 0, 1) := by decide +kernel
theorem dX9_gamesNow_13 : decode cX9_gamesNow 13 = .ok (.getfield 110, 3) := by decide +kernel
theorem dX9_gamesNow_16 : decode cX9_gamesNow 16 = .ok (.istore 5, 2) := by decide +kernel
theorem dX9_gamesNow_18 : decode cX9_gamesNow 18 = .ok (.iconst 0, 1) := by decide +kernel
theorem dX9_gamesNow_19 : decode cX9_gamesNow 19 = .ok (.istore 6, 2) := by decide +kernel
theorem dX9_gamesNow_21 : decode cX9_gamesNow 21 = .ok (.iconst 0, 1) := by decide +kernel
theorem dX9_gamesNow_22 : decode cX9_gamesNow 22 = .ok (.istore 7, 2) := by decide +kernel
theorem dX9_gamesNow_24 : decode cX9_gamesNow 24 = .ok (.iload 7, 2) := by decide +kernel
theorem dX9_gamesNow_26 : decode cX9_gamesNow 26 = .ok (.iconst 4, 1) := by decide +kernel
theorem dX9_gamesNow_27 : decode cX9_gamesNow 27 = .ok (.if_icmp .ge 17, 3) := by decide +kernel
theorem dX9_gamesNow_30 : decode cX9_gamesNow 30 = .ok (.aload_n 0, 1) := by decide +kernel
theorem dX9_gamesNow_31 : decode cX9_gamesNow 31 = .ok (.getfield 45, 3) := by decide +kernel
theorem dX9_gamesNow_34 : decode cX9_gamesNow 34 = .ok (.iload 7, 2) := by decide +kernel
theorem dX9_gamesNow_36 : decode cX9_gamesNow 36 = .ok (.iconst 0, 1) := by decide +kernel
theorem dX9_gamesNow_37 : decode cX9_gamesNow 37 = .ok (.iastore, 1) := by decide +kernel
theorem dX9_gamesNow_38 : decode cX9_gamesNow 38 = .ok (.iinc 7 1, 3) := by decide +kernel
theorem dX9_gamesNow_41 : decode cX9_gamesNow 41 = .ok (.goto (-17), 3) := by decide +kernel
theorem dX9_gamesNow_44 : decode cX9_gamesNow 44 = .ok (.iconst 0, 1) := by decide +kernel
theorem dX9_gamesNow_45 : decode cX9_gamesNow 45 = .ok (.istore 7, 2) := by decide +kernel
theorem dX9_gamesNow_47 : decode cX9_gamesNow 47 = .ok (.iload 7, 2) := by decide +kernel
theorem dX9_gamesNow_49 : decode cX9_gamesNow 49 = .ok (.iload_n 1, 1) := by decide +kernel
theorem dX9_gamesNow_50 : decode cX9_gamesNow 50 = .ok (.if_icmp .ge 100, 3) := by decide +kernel
theorem dX9_gamesNow_53 : decode cX9_gamesNow 53 = .ok (.iload 5, 2) := by decide +kernel
theorem dX9_gamesNow_55 : decode cX9_gamesNow 55 = .ok (.iconst 1, 1) := by decide +kernel
theorem dX9_gamesNow_56 : decode cX9_gamesNow 56 = .ok (.ishl, 1) := by decide +kernel
theorem dX9_gamesNow_57 : decode cX9_gamesNow 57 = .ok (.aload_n 0, 1) := by decide +kernel
theorem dX9_gamesNow_58 : decode cX9_gamesNow 58 = .ok (.iconst 2, 1) := by decide +kernel
theorem dX9_gamesNow_59 : decode cX9_gamesNow 59 = .ok (.invokevirtual 248, 3) := by decide +kernel
theorem dX9_gamesNow_62 : decode cX9_gamesNow 62 = .ok (.ior, 1) := by decide +kernel
theorem dX9_gamesNow_63 : decode cX9_gamesNow 63 = .ok (.bipush 15, 2) := by decide +kernel
theorem dX9_gamesNow_65 : decode cX9_gamesNow 65 = .ok (.iand, 1) := by decide +kernel
theorem dX9_gamesNow_66 : decode cX9_gamesNow 66 = .ok (.istore 5, 2) := by decide +kernel
theorem dX9_gamesNow_68 : decode cX9_gamesNow 68 = .ok (.iinc 4 1, 3) := by decide +kernel
theorem dX9_gamesNow_71 : decode cX9_gamesNow 71 = .ok (.aload_n 0, 1) := by decide +kernel
theorem dX9_gamesNow_72 : decode cX9_gamesNow 72 = .ok (.iload 4, 2) := by decide +kernel
theorem dX9_gamesNow_74 : decode cX9_gamesNow 74 = .ok (.iload 5, 2) := by decide +kernel
theorem dX9_gamesNow_76 : decode cX9_gamesNow 76 = .ok (.invokevirtual 161, 3) := by decide +kernel
theorem dX9_gamesNow_79 : decode cX9_gamesNow 79 = .ok (.istore 8, 2) := by decide +kernel
theorem dX9_gamesNow_81 : decode cX9_gamesNow 81 = .ok (.iconst 0, 1) := by decide +kernel
theorem dX9_gamesNow_82 : decode cX9_gamesNow 82 = .ok (.istore 9, 2) := by decide +kernel
theorem dX9_gamesNow_84 : decode cX9_gamesNow 84 = .ok (.iload 9, 2) := by decide +kernel
theorem dX9_gamesNow_86 : decode cX9_gamesNow 86 = .ok (.aload_n 0, 1) := by decide +kernel
theorem dX9_gamesNow_87 : decode cX9_gamesNow 87 = .ok (.getfield 101, 3) := by decide +kernel
theorem dX9_gamesNow_90 : decode cX9_gamesNow 90 = .ok (.if_icmp .ge 26, 3) := by decide +kernel
theorem dX9_gamesNow_93 : decode cX9_gamesNow 93 = .ok (.aload_n 0, 1) := by decide +kernel
theorem dX9_gamesNow_94 : decode cX9_gamesNow 94 = .ok (.getfield 45, 3) := by decide +kernel
theorem dX9_gamesNow_97 : decode cX9_gamesNow 97 = .ok (.iload 9, 2) := by decide +kernel
theorem dX9_gamesNow_99 : decode cX9_gamesNow 99 = .ok (.dup2, 1) := by decide +kernel
theorem dX9_gamesNow_100 : decode cX9_gamesNow 100 = .ok (.iaload, 1) := by decide +kernel
theorem dX9_gamesNow_101 : decode cX9_gamesNow 101 = .ok (.iload 8, 2) := by decide +kernel
theorem dX9_gamesNow_103 : decode cX9_gamesNow 103 = .ok (.iload 9, 2) := by decide +kernel
theorem dX9_gamesNow_105 : decode cX9_gamesNow 105 = .ok (.ishr, 1) := by decide +kernel
theorem dX9_gamesNow_106 : decode cX9_gamesNow 106 = .ok (.iconst 1, 1) := by decide +kernel
theorem dX9_gamesNow_107 : decode cX9_gamesNow 107 = .ok (.iand, 1) := by decide +kernel
theorem dX9_gamesNow_108 : decode cX9_gamesNow 108 = .ok (.iadd, 1) := by decide +kernel
theorem dX9_gamesNow_109 : decode cX9_gamesNow 109 = .ok (.iastore, 1) := by decide +kernel
theorem dX9_gamesNow_110 : decode cX9_gamesNow 110 = .ok (.iinc 9 1, 3) := by decide +kernel
theorem dX9_gamesNow_113 : decode cX9_gamesNow 113 = .ok (.goto (-29), 3) := by decide +kernel
theorem dX9_gamesNow_116 : decode cX9_gamesNow 116 = .ok (.iload 6, 2) := by decide +kernel
theorem dX9_gamesNow_118 : decode cX9_gamesNow 118 = .ok (.iload 8, 2) := by decide +kernel
theorem dX9_gamesNow_120 : decode cX9_gamesNow 120 = .ok (.ifCond .ne 7, 3) := by decide +kernel
theorem dX9_gamesNow_123 : decode cX9_gamesNow 123 = .ok (.iconst 0, 1) := by decide +kernel
theorem dX9_gamesNow_124 : decode cX9_gamesNow 124 = .ok (.goto 4, 3) := by decide +kernel
theorem dX9_gamesNow_127 : decode cX9_gamesNow 127 = .ok (.iconst 1, 1) := by decide +kernel
theorem dX9_gamesNow_128 : decode cX9_gamesNow 128 = .ok (.iadd, 1) := by decide +kernel
theorem dX9_gamesNow_129 : decode cX9_gamesNow 129 = .ok (.istore 6, 2) := by decide +kernel
theorem dX9_gamesNow_131 : decode cX9_gamesNow 131 = .ok (.iload 8, 2) := by decide +kernel
theorem dX9_gamesNow_133 : decode cX9_gamesNow 133 = .ok (.ifCond .ne 8, 3) := by decide +kernel
theorem dX9_gamesNow_136 : decode cX9_gamesNow 136 = .ok (.iload 4, 2) := by decide +kernel
theorem dX9_gamesNow_138 : decode cX9_gamesNow 138 = .ok (.goto 4, 3) := by decide +kernel
theorem dX9_gamesNow_141 : decode cX9_gamesNow 141 = .ok (.iconst 0, 1) := by decide +kernel
theorem dX9_gamesNow_142 : decode cX9_gamesNow 142 = .ok (.istore 4, 2) := by decide +kernel
theorem dX9_gamesNow_144 : decode cX9_gamesNow 144 = .ok (.iinc 7 1, 3) := by decide +kernel
theorem dX9_gamesNow_147 : decode cX9_gamesNow 147 = .ok (.goto (-100), 3) := by decide +kernel
theorem dX9_gamesNow_150 : decode cX9_gamesNow 150 = .ok (.iload_n 3, 1) := by decide +kernel
theorem dX9_gamesNow_151 : decode cX9_gamesNow 151 = .ok (.ifCond .ne 8, 3) := by decide +kernel
theorem dX9_gamesNow_154 : decode cX9_gamesNow 154 = .ok (.iload 6, 2) := by decide +kernel
theorem dX9_gamesNow_156 : decode cX9_gamesNow 156 = .ok (.goto 20, 3) := by decide +kernel
theorem dX9_gamesNow_159 : decode cX9_gamesNow 159 = .ok (.iload_n 3, 1) := by decide +kernel
theorem dX9_gamesNow_160 : decode cX9_gamesNow 160 = .ok (.iconst 1, 1) := by decide +kernel
theorem dX9_gamesNow_161 : decode cX9_gamesNow 161 = .ok (.if_icmp .ne 10, 3) := by decide +kernel
theorem dX9_gamesNow_164 : decode cX9_gamesNow 164 = .ok (.aload_n 0, 1) := by decide +kernel
theorem dX9_gamesNow_165 : decode cX9_gamesNow 165 = .ok (.invokevirtual 251, 3) := by decide +kernel
theorem dX9_gamesNow_168 : decode cX9_gamesNow 168 = .ok (.goto 8, 3) := by decide +kernel
theorem dX9_gamesNow_171 : decode cX9_gamesNow 171 = .ok (.aload_n 0, 1) := by decide +kernel
theorem dX9_gamesNow_172 : decode cX9_gamesNow 172 = .ok (.getfield 238, 3) := by decide +kernel
theorem dX9_gamesNow_175 : decode cX9_gamesNow 175 = .ok (.l2i, 1) := by decide +kernel
theorem dX9_gamesNow_176 : decode cX9_gamesNow 176 = .ok (.ireturn, 1) := by decide +kernel
theorem dX9_games_0 : decode cX9_games 0 = .ok (.iload_n 1, 1) := by decide +kernel
theorem dX9_games_1 : decode cX9_games 1 = .ok (.iconst 1, 1) := by decide +kernel
theorem dX9_games_2 : decode cX9_games 2 = .ok (.bipush 99, 2) := by decide +kernel
theorem dX9_games_4 : decode cX9_games 4 = .ok (.invokestatic 66, 3) := by decide +kernel
theorem dX9_games_7 : decode cX9_games 7 = .ok (.ifCond .eq 16, 3) := by decide +kernel
theorem dX9_games_10 : decode cX9_games 10 = .ok (.iload_n 2, 1) := by decide +kernel
theorem dX9_games_11 : decode cX9_games 11 = .ok (.ifCond .lt 12, 3) := by decide +kernel
theorem dX9_games_14 : decode cX9_games 14 = .ok (.iload_n 3, 1) := by decide +kernel
theorem dX9_games_15 : decode cX9_games 15 = .ok (.iconst 0, 1) := by decide +kernel
theorem dX9_games_16 : decode cX9_games 16 = .ok (.iconst 2, 1) := by decide +kernel
theorem dX9_games_17 : decode cX9_games 17 = .ok (.invokestatic 66, 3) := by decide +kernel
theorem dX9_games_20 : decode cX9_games 20 = .ok (.ifCond .ne 6, 3) := by decide +kernel
theorem dX9_games_23 : decode cX9_games 23 = .ok (.bipush (-102), 2) := by decide +kernel
theorem dX9_games_25 : decode cX9_games 25 = .ok (.ireturn, 1) := by decide +kernel
theorem dX9_games_26 : decode cX9_games 26 = .ok (.aload_n 0, 1) := by decide +kernel
theorem dX9_games_27 : decode cX9_games 27 = .ok (.getfield 101, 3) := by decide +kernel
theorem dX9_games_30 : decode cX9_games 30 = .ok (.ifCond .ne 8, 3) := by decide +kernel
theorem dX9_games_33 : decode cX9_games 33 = .ok (.bipush (-103), 2) := by decide +kernel
theorem dX9_games_35 : decode cX9_games 35 = .ok (.goto 10, 3) := by decide +kernel
theorem dX9_games_38 : decode cX9_games 38 = .ok (.aload_n 0, 1) := by decide +kernel
theorem dX9_games_39 : decode cX9_games 39 = .ok (.iload_n 1, 1) := by decide +kernel
theorem dX9_games_40 : decode cX9_games 40 = .ok (.iload_n 2, 1) := by decide +kernel
theorem dX9_games_41 : decode cX9_games 41 = .ok (.iload_n 3, 1) := by decide +kernel
theorem dX9_games_42 : decode cX9_games 42 = .ok (.invokevirtual 254, 3) := by decide +kernel
theorem dX9_games_45 : decode cX9_games 45 = .ok (.ireturn, 1) := by decide +kernel
theorem dX9_image_0 : decode cX9_image 0 = .ok (.aload_n 0, 1) := by decide +kernel
theorem dX9_image_1 : decode cX9_image 1 = .ok (.getfield 101, 3) := by decide +kernel
theorem dX9_image_4 : decode cX9_image 4 = .ok (.ifCond .ne 6, 3) := by decide +kernel
theorem dX9_image_7 : decode cX9_image 7 = .ok (.bipush (-103), 2) := by decide +kernel
theorem dX9_image_9 : decode cX9_image 9 = .ok (.ireturn, 1) := by decide +kernel
theorem dX9_image_10 : decode cX9_image 10 = .ok (.aload_n 0, 1) := by decide +kernel
theorem dX9_image_11 : decode cX9_image 11 = .ok (.iconst 1, 1) := by decide +kernel
theorem dX9_image_12 : decode cX9_image 12 = .ok (.putfield 257, 3) := by decide +kernel
theorem dX9_image_15 : decode cX9_image 15 = .ok (.aload_n 0, 1) := by decide +kernel
theorem dX9_image_16 : decode cX9_image 16 = .ok (.aload_n 0, 1) := by decide +kernel
theorem dX9_image_17 : decode cX9_image 17 = .ok (.getfield 116, 3) := by decide +kernel
theorem dX9_image_20 : decode cX9_image 20 = .ok (.putfield 260, 3) := by decide +kernel
theorem dX9_image_23 : decode cX9_image 23 = .ok (.aload_n 0, 1) := by decide +kernel
theorem dX9_image_24 : decode cX9_image 24 = .ok (.aload_n 0, 1) := by decide +kernel
theorem dX9_image_25 : decode cX9_image 25 = .ok (.getfield 107, 3) := by decide +kernel
theorem dX9_image_28 : decode cX9_image 28 = .ok (.putfield 263, 3) := by decide +kernel
theorem dX9_image_31 : decode cX9_image 31 = .ok (.aload_n 0, 1) := by decide +kernel
theorem dX9_image_32 : decode cX9_image 32 = .ok (.aload_n 0, 1) := by decide +kernel
theorem dX9_image_33 : decode cX9_image 33 = .ok (.getfield 110, 3) := by decide +kernel
theorem dX9_image_36 : decode cX9_image 36 = .ok (.putfield 266, 3) := by decide +kernel
theorem dX9_image_39 : decode cX9_image 39 = .ok (.aload_n 0, 1) := by decide +kernel
theorem dX9_image_40 : decode cX9_image 40 = .ok (.aload_n 0, 1) := by decide +kernel
theorem dX9_image_41 : decode cX9_image 41 = .ok (.getfield 113, 3) := by decide +kernel
theorem dX9_image_44 : decode cX9_image 44 = .ok (.putfield 269, 3) := by decide +kernel
theorem dX9_image_47 : decode cX9_image 47 = .ok (.aload_n 0, 1) := by decide +kernel
theorem dX9_image_48 : decode cX9_image 48 = .ok (.aload_n 0, 1) := by decide +kernel
theorem dX9_image_49 : decode cX9_image 49 = .ok (.getfield 119, 3) := by decide +kernel
theorem dX9_image_52 : decode cX9_image 52 = .ok (.putfield 272, 3) := by decide +kernel
theorem dX9_image_55 : decode cX9_image 55 = .ok (.iconst 0, 1) := by decide +kernel
theorem dX9_image_56 : decode cX9_image 56 = .ok (.istore_n 1, 1) := by decide +kernel
theorem dX9_image_57 : decode cX9_image 57 = .ok (.iload_n 1, 1) := by decide +kernel
theorem dX9_image_58 : decode cX9_image 58 = .ok (.iconst 4, 1) := by decide +kernel
theorem dX9_image_59 : decode cX9_image 59 = .ok (.if_icmp .ge 45, 3) := by decide +kernel
theorem dX9_image_62 : decode cX9_image 62 = .ok (.aload_n 0, 1) := by decide +kernel
theorem dX9_image_63 : decode cX9_image 63 = .ok (.getfield 48, 3) := by decide +kernel
theorem dX9_image_66 : decode cX9_image 66 = .ok (.iload_n 1, 1) := by decide +kernel
theorem dX9_image_67 : decode cX9_image 67 = .ok (.aload_n 0, 1) := by decide +kernel
theorem dX9_image_68 : decode cX9_image 68 = .ok (.getfield 7, 3) := by decide +kernel
theorem dX9_image_71 : decode cX9_image 71 = .ok (.iload_n 1, 1) := by decide +kernel
theorem dX9_image_72 : decode cX9_image 72 = .ok (.iaload, 1) := by decide +kernel
theorem dX9_image_73 : decode cX9_image 73 = .ok (.iastore, 1) := by decide +kernel
theorem dX9_image_74 : decode cX9_image 74 = .ok (.aload_n 0, 1) := by decide +kernel
theorem dX9_image_75 : decode cX9_image 75 = .ok (.getfield 51, 3) := by decide +kernel
theorem dX9_image_78 : decode cX9_image 78 = .ok (.iload_n 1, 1) := by decide +kernel
theorem dX9_image_79 : decode cX9_image 79 = .ok (.aload_n 0, 1) := by decide +kernel
theorem dX9_image_80 : decode cX9_image 80 = .ok (.getfield 13, 3) := by decide +kernel
theorem dX9_image_83 : decode cX9_image 83 = .ok (.iload_n 1, 1) := by decide +kernel
theorem dX9_image_84 : decode cX9_image 84 = .ok (.iaload, 1) := by decide +kernel
theorem dX9_image_85 : decode cX9_image 85 = .ok (.iastore, 1) := by decide +kernel
theorem dX9_image_86 : decode cX9_image 86 = .ok (.aload_n 0, 1) := by decide +kernel
theorem dX9_image_87 : decode cX9_image 87 = .ok (.getfield 54, 3) := by decide +kernel
theorem dX9_image_90 : decode cX9_image 90 = .ok (.iload_n 1, 1) := by decide +kernel
theorem dX9_image_91 : decode cX9_image 91 = .ok (.aload_n 0, 1) := by decide +kernel
theorem dX9_image_92 : decode cX9_image 92 = .ok (.getfield 16, 3) := by decide +kernel
theorem dX9_image_95 : decode cX9_image 95 = .ok (.iload_n 1, 1) := by decide +kernel
theorem dX9_image_96 : decode cX9_image 96 = .ok (.iaload, 1) := by decide +kernel
theorem dX9_image_97 : decode cX9_image 97 = .ok (.iastore, 1) := by decide +kernel
theorem dX9_image_98 : decode cX9_image 98 = .ok (.iinc 1 1, 3) := by decide +kernel
theorem dX9_image_101 : decode cX9_image 101 = .ok (.goto (-44), 3) := by decide +kernel
theorem dX9_image_104 : decode cX9_image 104 = .ok (.iconst 0, 1) := by decide +kernel
theorem dX9_image_105 : decode cX9_image 105 = .ok (.istore_n 1, 1) := by decide +kernel
theorem dX9_image_106 : decode cX9_image 106 = .ok (.iload_n 1, 1) := by decide +kernel
theorem dX9_image_107 : decode cX9_image 107 = .ok (.bipush 6, 2) := by decide +kernel
theorem dX9_image_109 : decode cX9_image 109 = .ok (.if_icmp .ge 45, 3) := by decide +kernel
theorem dX9_image_112 : decode cX9_image 112 = .ok (.aload_n 0, 1) := by decide +kernel
theorem dX9_image_113 : decode cX9_image 113 = .ok (.getfield 57, 3) := by decide +kernel
theorem dX9_image_116 : decode cX9_image 116 = .ok (.iload_n 1, 1) := by decide +kernel
theorem dX9_image_117 : decode cX9_image 117 = .ok (.aload_n 0, 1) := by decide +kernel
theorem dX9_image_118 : decode cX9_image 118 = .ok (.getfield 19, 3) := by decide +kernel
theorem dX9_image_121 : decode cX9_image 121 = .ok (.iload_n 1, 1) := by decide +kernel
theorem dX9_image_122 : decode cX9_image 122 = .ok (.iaload, 1) := by decide +kernel
theorem dX9_image_123 : decode cX9_image 123 = .ok (.iastore, 1) := by decide +kernel
theorem dX9_image_124 : decode cX9_image 124 = .ok (.aload_n 0, 1) := by decide +kernel
theorem dX9_image_125 : decode cX9_image 125 = .ok (.getfield 60, 3) := by decide +kernel
theorem dX9_image_128 : decode cX9_image 128 = .ok (.iload_n 1, 1) := by decide +kernel
theorem dX9_image_129 : decode cX9_image 129 = .ok (.aload_n 0, 1) := by decide +kernel
theorem dX9_image_130 : decode cX9_image 130 = .ok (.getfield 22, 3) := by decide +kernel
theorem dX9_image_133 : decode cX9_image 133 = .ok (.iload_n 1, 1) := by decide +kernel
theorem dX9_image_134 : decode cX9_image 134 = .ok (.iaload, 1) := by decide +kernel
theorem dX9_image_135 : decode cX9_image 135 = .ok (.iastore, 1) := by decide +kernel
theorem dX9_image_136 : decode cX9_image 136 = .ok (.aload_n 0, 1) := by decide +kernel
theorem dX9_image_137 : decode cX9_image 137 = .ok (.getfield 63, 3) := by decide +kernel
theorem dX9_image_140 : decode cX9_image 140 = .ok (.iload_n 1, 1) := by decide +kernel
theorem dX9_image_141 : decode cX9_image 141 = .ok (.aload_n 0, 1) := by decide +kernel
theorem dX9_image_142 : decode cX9_image 142 = .ok (.getfield 25, 3) := by decide +kernel
theorem dX9_image_145 : decode cX9_image 145 = .ok (.iload_n 1, 1) := by decide +kernel
theorem dX9_image_146 : decode cX9_image 146 = .ok (.iaload, 1) := by decide +kernel
theorem dX9_image_147 : decode cX9_image 147 = .ok (.iastore, 1) := by decide +kernel
theorem dX9_image_148 : decode cX9_image 148 = .ok (.iinc 1 1, 3) := by decide +kernel
theorem dX9_image_151 : decode cX9_image 151 = .ok (.goto (-45), 3) := by decide +kernel
theorem dX9_image_154 : decode cX9_image 154 = .ok (.aload_n 0, 1) := by decide +kernel
theorem dX9_image_155 : decode cX9_image 155 = .ok (.getfield 113, 3) := by decide +kernel
theorem dX9_image_158 : decode cX9_image 158 = .ok (.ireturn, 1) := by decide +kernel
theorem dX9_restore_0 : decode cX9_restore 0 = .ok (.aload_n 0, 1) := by decide +kernel
theorem dX9_restore_1 : decode cX9_restore 1 = .ok (.getfield 257, 3) := by decide +kernel
theorem dX9_restore_4 : decode cX9_restore 4 = .ok (.ifCond .eq 14, 3) := by decide +kernel
theorem dX9_restore_7 : decode cX9_restore 7 = .ok (.aload_n 0, 1) := by decide +kernel
theorem dX9_restore_8 : decode cX9_restore 8 = .ok (.getfield 260, 3) := by decide +kernel
theorem dX9_restore_11 : decode cX9_restore 11 = .ok (.aload_n 0, 1) := by decide +kernel
theorem dX9_restore_12 : decode cX9_restore 12 = .ok (.getfield 116, 3) := by decide +kernel
theorem dX9_restore_15 : decode cX9_restore 15 = .ok (.if_icmp .eq 6, 3) := by decide +kernel
theorem dX9_restore_18 : decode cX9_restore 18 = .ok (.bipush (-103), 2) := by decide +kernel
theorem dX9_restore_20 : decode cX9_restore 20 = .ok (.ireturn, 1) := by decide +kernel
theorem dX9_restore_21 : decode cX9_restore 21 = .ok (.aload_n 0, 1) := by decide +kernel
theorem dX9_restore_22 : decode cX9_restore 22 = .ok (.aload_n 0, 1) := by decide +kernel
theorem dX9_restore_23 : decode cX9_restore 23 = .ok (.getfield 263, 3) := by decide +kernel
theorem dX9_restore_26 : decode cX9_restore 26 = .ok (.putfield 107, 3) := by decide +kernel
theorem dX9_restore_29 : decode cX9_restore 29 = .ok (.aload_n 0, 1) := by decide +kernel
theorem dX9_restore_30 : decode cX9_restore 30 = .ok (.aload_n 0, 1) := by decide +kernel
theorem dX9_restore_31 : decode cX9_restore 31 = .ok (.getfield 266, 3) := by decide +kernel
theorem dX9_restore_34 : decode cX9_restore 34 = .ok (.putfield 110, 3) := by decide +kernel
theorem dX9_restore_37 : decode cX9_restore 37 = .ok (.aload_n 0, 1) := by decide +kernel
theorem dX9_restore_38 : decode cX9_restore 38 = .ok (.aload_n 0, 1) := by decide +kernel
theorem dX9_restore_39 : decode cX9_restore 39 = .ok (.getfield 269, 3) := by decide +kernel
theorem dX9_restore_42 : decode cX9_restore 42 = .ok (.putfield 113, 3) := by decide +kernel
theorem dX9_restore_45 : decode cX9_restore 45 = .ok (.aload_n 0, 1) := by decide +kernel
theorem dX9_restore_46 : decode cX9_restore 46 = .ok (.aload_n 0, 1) := by decide +kernel
theorem dX9_restore_47 : decode cX9_restore 47 = .ok (.getfield 272, 3) := by decide +kernel
theorem dX9_restore_50 : decode cX9_restore 50 = .ok (.putfield 119, 3) := by decide +kernel
theorem dX9_restore_53 : decode cX9_restore 53 = .ok (.iconst 0, 1) := by decide +kernel
theorem dX9_restore_54 : decode cX9_restore 54 = .ok (.istore_n 1, 1) := by decide +kernel
theorem dX9_restore_55 : decode cX9_restore 55 = .ok (.iload_n 1, 1) := by decide +kernel
theorem dX9_restore_56 : decode cX9_restore 56 = .ok (.iconst 4, 1) := by decide +kernel
theorem dX9_restore_57 : decode cX9_restore 57 = .ok (.if_icmp .ge 45, 3) := by decide +kernel
theorem dX9_restore_60 : decode cX9_restore 60 = .ok (.aload_n 0, 1) := by decide +kernel
theorem dX9_restore_61 : decode cX9_restore 61 = .ok (.getfield 7, 3) := by decide +kernel
theorem dX9_restore_64 : decode cX9_restore 64 = .ok (.iload_n 1, 1) := by decide +kernel
theorem dX9_restore_65 : decode cX9_restore 65 = .ok (.aload_n 0, 1) := by decide +kernel
theorem dX9_restore_66 : decode cX9_restore 66 = .ok (.getfield 48, 3) := by decide +kernel
theorem dX9_restore_69 : decode cX9_restore 69 = .ok (.iload_n 1, 1) := by decide +kernel
theorem dX9_restore_70 : decode cX9_restore 70 = .ok (.iaload, 1) := by decide +kernel
theorem dX9_restore_71 : decode cX9_restore 71 = .ok (.iastore, 1) := by decide +kernel
theorem dX9_restore_72 : decode cX9_restore 72 = .ok (.aload_n 0, 1) := by decide +kernel
theorem dX9_restore_73 : decode cX9_restore 73 = .ok (.getfield 13, 3) := by decide +kernel
theorem dX9_restore_76 : decode cX9_restore 76 = .ok (.iload_n 1, 1) := by decide +kernel
theorem dX9_restore_77 : decode cX9_restore 77 = .ok (.aload_n 0, 1) := by decide +kernel
theorem dX9_restore_78 : decode cX9_restore 78 = .ok (.getfield 51, 3) := by decide +kernel
theorem dX9_restore_81 : decode cX9_restore 81 = .ok (.iload_n 1, 1) := by decide +kernel
theorem dX9_restore_82 : decode cX9_restore 82 = .ok (.iaload, 1) := by decide +kernel
theorem dX9_restore_83 : decode cX9_restore 83 = .ok (.iastore, 1) := by decide +kernel
theorem dX9_restore_84 : decode cX9_restore 84 = .ok (.aload_n 0, 1) := by decide +kernel
theorem dX9_restore_85 : decode cX9_restore 85 = .ok (.getfield 16, 3) := by decide +kernel
theorem dX9_restore_88 : decode cX9_restore 88 = .ok (.iload_n 1, 1) := by decide +kernel
theorem dX9_restore_89 : decode cX9_restore 89 = .ok (.aload_n 0, 1) := by decide +kernel
theorem dX9_restore_90 : decode cX9_restore 90 = .ok (.getfield 54, 3) := by decide +kernel
theorem dX9_restore_93 : decode cX9_restore 93 = .ok (.iload_n 1, 1) := by decide +kernel
theorem dX9_restore_94 : decode cX9_restore 94 = .ok (.iaload, 1) := by decide +kernel
theorem dX9_restore_95 : decode cX9_restore 95 = .ok (.iastore, 1) := by decide +kernel
theorem dX9_restore_96 : decode cX9_restore 96 = .ok (.iinc 1 1, 3) := by decide +kernel
theorem dX9_restore_99 : decode cX9_restore 99 = .ok (.goto (-44), 3) := by decide +kernel
theorem dX9_restore_102 : decode cX9_restore 102 = .ok (.iconst 0, 1) := by decide +kernel
theorem dX9_restore_103 : decode cX9_restore 103 = .ok (.istore_n 1, 1) := by decide +kernel
theorem dX9_restore_104 : decode cX9_restore 104 = .ok (.iload_n 1, 1) := by decide +kernel
theorem dX9_restore_105 : decode cX9_restore 105 = .ok (.bipush 6, 2) := by decide +kernel
theorem dX9_restore_107 : decode cX9_restore 107 = .ok (.if_icmp .ge 45, 3) := by decide +kernel
theorem dX9_restore_110 : decode cX9_restore 110 = .ok (.aload_n 0, 1) := by decide +kernel
theorem dX9_restore_111 : decode cX9_restore 111 = .ok (.getfield 19, 3) := by decide +kernel
theorem dX9_restore_114 : decode cX9_restore 114 = .ok (.iload_n 1, 1) := by decide +kernel
theorem dX9_restore_115 : decode cX9_restore 115 = .ok (.aload_n 0, 1) := by decide +kernel
theorem dX9_restore_116 : decode cX9_restore 116 = .ok (.getfield 57, 3) := by decide +kernel
theorem dX9_restore_119 : decode cX9_restore 119 = .ok (.iload_n 1, 1) := by decide +kernel
theorem dX9_restore_120 : decode cX9_restore 120 = .ok (.iaload, 1) := by decide +kernel
theorem dX9_restore_121 : decode cX9_restore 121 = .ok (.iastore, 1) := by decide +kernel
theorem dX9_restore_122 : decode cX9_restore 122 = .ok (.aload_n 0, 1) := by decide +kernel
theorem dX9_restore_123 : decode cX9_restore 123 = .ok (.getfield 22, 3) := by decide +kernel
theorem dX9_restore_126 : decode cX9_restore 126 = .ok (.iload_n 1, 1) := by decide +kernel
theorem dX9_restore_127 : decode cX9_restore 127 = .ok (.aload_n 0, 1) := by decide +kernel
theorem dX9_restore_128 : decode cX9_restore 128 = .ok (.getfield 60, 3) := by decide +kernel
theorem dX9_restore_131 : decode cX9_restore 131 = .ok (.iload_n 1, 1) := by decide +kernel
theorem dX9_restore_132 : decode cX9_restore 132 = .ok (.iaload, 1) := by decide +kernel
theorem dX9_restore_133 : decode cX9_restore 133 = .ok (.iastore, 1) := by decide +kernel
theorem dX9_restore_134 : decode cX9_restore 134 = .ok (.aload_n 0, 1) := by decide +kernel
theorem dX9_restore_135 : decode cX9_restore 135 = .ok (.getfield 25, 3) := by decide +kernel
theorem dX9_restore_138 : decode cX9_restore 138 = .ok (.iload_n 1, 1) := by decide +kernel
theorem dX9_restore_139 : decode cX9_restore 139 = .ok (.aload_n 0, 1) := by decide +kernel
theorem dX9_restore_140 : decode cX9_restore 140 = .ok (.getfield 63, 3) := by decide +kernel
theorem dX9_restore_143 : decode cX9_restore 143 = .ok (.iload_n 1, 1) := by decide +kernel
theorem dX9_restore_144 : decode cX9_restore 144 = .ok (.iaload, 1) := by decide +kernel
theorem dX9_restore_145 : decode cX9_restore 145 = .ok (.iastore, 1) := by decide +kernel
theorem dX9_restore_146 : decode cX9_restore 146 = .ok (.iinc 1 1, 3) := by decide +kernel
theorem dX9_restore_149 : decode cX9_restore 149 = .ok (.goto (-45), 3) := by decide +kernel
theorem dX9_restore_152 : decode cX9_restore 152 = .ok (.aload_n 0, 1) := by decide +kernel
theorem dX9_restore_153 : decode cX9_restore 153 = .ok (.getfield 113, 3) := by decide +kernel
theorem dX9_restore_156 : decode cX9_restore 156 = .ok (.ireturn, 1) := by decide +kernel
theorem dX9_wonByAll_0 : decode cX9_wonByAll 0 = .ok (.iconst 0, 1) := by decide +kernel
theorem dX9_wonByAll_1 : decode cX9_wonByAll 1 = .ok (.istore_n 1, 1) := by decide +kernel
theorem dX9_wonByAll_2 : decode cX9_wonByAll 2 = .ok (.iconst 0, 1) := by decide +kernel
theorem dX9_wonByAll_3 : decode cX9_wonByAll 3 = .ok (.istore_n 2, 1) := by decide +kernel
theorem dX9_wonByAll_4 : decode cX9_wonByAll 4 = .ok (.iload_n 2, 1) := by decide +kernel
theorem dX9_wonByAll_5 : decode cX9_wonByAll 5 = .ok (.aload_n 0, 1) := by decide +kernel
theorem dX9_wonByAll_6 : decode cX9_wonByAll 6 = .ok (.getfield 101, 3) := by decide +kernel
theorem dX9_wonByAll_9 : decode cX9_wonByAll 9 = .ok (.if_icmp .ge 18, 3) := by decide +kernel
theorem dX9_wonByAll_12 : decode cX9_wonByAll 12 = .ok (.iload_n 1, 1) := by decide +kernel
theorem dX9_wonByAll_13 : decode cX9_wonByAll 13 = .ok (.aload_n 0, 1) := by decide +kernel
theorem dX9_wonByAll_14 : decode cX9_wonByAll 14 = .ok (.getfield 16, 3) := by decide +kernel
theorem dX9_wonByAll_17 : decode cX9_wonByAll 17 = .ok (.iload_n 2, 1) := by decide +kernel
theorem dX9_wonByAll_18 : decode cX9_wonByAll 18 = .ok (.iaload, 1) := by decide +kernel
theorem dX9_wonByAll_19 : decode cX9_wonByAll 19 = .ok (.iadd, 1) := by decide +kernel
theorem dX9_wonByAll_20 : decode cX9_wonByAll 20 = .ok (.istore_n 1, 1) := by decide +kernel
theorem dX9_wonByAll_21 : decode cX9_wonByAll 21 = .ok (.iinc 2 1, 3) := by decide +kernel
theorem dX9_wonByAll_24 : decode cX9_wonByAll 24 = .ok (.goto (-20), 3) := by decide +kernel
theorem dX9_wonByAll_27 : decode cX9_wonByAll 27 = .ok (.iload_n 1, 1) := by decide +kernel
theorem dX9_wonByAll_28 : decode cX9_wonByAll 28 = .ok (.ireturn, 1) := by decide +kernel
theorem dX9_tailNow_0 : decode cX9_tailNow 0 = .ok (.aload_n 0, 1) := by decide +kernel
theorem dX9_tailNow_1 : decode cX9_tailNow 1 = .ok (.getfield 101, 3) := by decide +kernel
theorem dX9_tailNow_4 : decode cX9_tailNow 4 = .ok (.ifCond .eq 14, 3) := by decide +kernel
theorem dX9_tailNow_7 : decode cX9_tailNow 7 = .ok (.aload_n 0, 1) := by decide +kernel
theorem dX9_tailNow_8 : decode cX9_tailNow 8 = .ok (.getfield 107, 3) := by decide +kernel
theorem dX9_tailNow_11 : decode cX9_tailNow 11 = .ok (.aload_n 0, 1) := by decide +kernel
theorem dX9_tailNow_12 : decode cX9_tailNow 12 = .ok (.getfield 98, 3) := by decide +kernel
theorem dX9_tailNow_15 : decode cX9_tailNow 15 = .ok (.if_icmp .ge 7, 3) := by decide +kernel
theorem dX9_tailNow_18 : decode cX9_tailNow 18 = .ok (.iconst (-1), 1) := by decide +kernel
theorem dX9_tailNow_19 : decode cX9_tailNow 19 = .ok (.goto 14, 3) := by decide +kernel
theorem dX9_tailNow_22 : decode cX9_tailNow 22 = .ok (.aload_n 0, 1) := by decide +kernel
theorem dX9_tailNow_23 : decode cX9_tailNow 23 = .ok (.getfield 110, 3) := by decide +kernel
theorem dX9_tailNow_26 : decode cX9_tailNow 26 = .ok (.aload_n 0, 1) := by decide +kernel
theorem dX9_tailNow_27 : decode cX9_tailNow 27 = .ok (.invokevirtual 122, 3) := by decide +kernel
theorem dX9_tailNow_30 : decode cX9_tailNow 30 = .ok (.iconst 1, 1) := by decide +kernel
theorem dX9_tailNow_31 : decode cX9_tailNow 31 = .ok (.isub, 1) := by decide +kernel
theorem dX9_tailNow_32 : decode cX9_tailNow 32 = .ok (.iand, 1) := by decide +kernel
theorem dX9_tailNow_33 : decode cX9_tailNow 33 = .ok (.ireturn, 1) := by decide +kernel
theorem dX9_howMany_0 : decode cX9_howMany 0 = .ok (.iload_n 1, 1) := by decide +kernel
theorem dX9_howMany_1 : decode cX9_howMany 1 = .ok (.tableswitch 96 0 8 #[51, 56, 61, 66, 71, 76, 81, 86, 91], 51) := by decide +kernel
theorem dX9_howMany_52 : decode cX9_howMany 52 = .ok (.aload_n 0, 1) := by decide +kernel
theorem dX9_howMany_53 : decode cX9_howMany 53 = .ok (.getfield 101, 3) := by decide +kernel
theorem dX9_howMany_56 : decode cX9_howMany 56 = .ok (.ireturn, 1) := by decide +kernel
theorem dX9_howMany_57 : decode cX9_howMany 57 = .ok (.aload_n 0, 1) := by decide +kernel
theorem dX9_howMany_58 : decode cX9_howMany 58 = .ok (.getfield 98, 3) := by decide +kernel
theorem dX9_howMany_61 : decode cX9_howMany 61 = .ok (.ireturn, 1) := by decide +kernel
theorem dX9_howMany_62 : decode cX9_howMany 62 = .ok (.aload_n 0, 1) := by decide +kernel
theorem dX9_howMany_63 : decode cX9_howMany 63 = .ok (.getfield 107, 3) := by decide +kernel
theorem dX9_howMany_66 : decode cX9_howMany 66 = .ok (.ireturn, 1) := by decide +kernel
theorem dX9_howMany_67 : decode cX9_howMany 67 = .ok (.aload_n 0, 1) := by decide +kernel
theorem dX9_howMany_68 : decode cX9_howMany 68 = .ok (.getfield 113, 3) := by decide +kernel
theorem dX9_howMany_71 : decode cX9_howMany 71 = .ok (.ireturn, 1) := by decide +kernel
theorem dX9_howMany_72 : decode cX9_howMany 72 = .ok (.aload_n 0, 1) := by decide +kernel
theorem dX9_howMany_73 : decode cX9_howMany 73 = .ok (.invokevirtual 275, 3) := by decide +kernel
theorem dX9_howMany_76 : decode cX9_howMany 76 = .ok (.ireturn, 1) := by decide +kernel
theorem dX9_howMany_77 : decode cX9_howMany 77 = .ok (.aload_n 0, 1) := by decide +kernel
theorem dX9_howMany_78 : decode cX9_howMany 78 = .ok (.invokevirtual 278, 3) := by decide +kernel
theorem dX9_howMany_81 : decode cX9_howMany 81 = .ok (.ireturn, 1) := by decide +kernel
theorem dX9_howMany_82 : decode cX9_howMany 82 = .ok (.aload_n 0, 1) := by decide +kernel
theorem dX9_howMany_83 : decode cX9_howMany 83 = .ok (.getfield 119, 3) := by decide +kernel
theorem dX9_howMany_86 : decode cX9_howMany 86 = .ok (.ireturn, 1) := by decide +kernel
theorem dX9_howMany_87 : decode cX9_howMany 87 = .ok (.aload_n 0, 1) := by decide +kernel
theorem dX9_howMany_88 : decode cX9_howMany 88 = .ok (.getfield 70, 3) := by decide +kernel
theorem dX9_howMany_91 : decode cX9_howMany 91 = .ok (.ireturn, 1) := by decide +kernel
theorem dX9_howMany_92 : decode cX9_howMany 92 = .ok (.aload_n 0, 1) := by decide +kernel
theorem dX9_howMany_93 : decode cX9_howMany 93 = .ok (.getfield 116, 3) := by decide +kernel
theorem dX9_howMany_96 : decode cX9_howMany 96 = .ok (.ireturn, 1) := by decide +kernel
theorem dX9_howMany_97 : decode cX9_howMany 97 = .ok (.bipush (-102), 2) := by decide +kernel
theorem dX9_howMany_99 : decode cX9_howMany 99 = .ok (.ireturn, 1) := by decide +kernel
theorem dX9_count_0 : decode cX9_count 0 = .ok (.aload_n 0, 1) := by decide +kernel
theorem dX9_count_1 : decode cX9_count 1 = .ok (.iload_n 1, 1) := by decide +kernel
theorem dX9_count_2 : decode cX9_count 2 = .ok (.invokevirtual 281, 3) := by decide +kernel
theorem dX9_count_5 : decode cX9_count 5 = .ok (.ireturn, 1) := by decide +kernel
theorem dX9_mix_0 : decode cX9_mix 0 = .ok (.aload_n 0, 1) := by decide +kernel
theorem dX9_mix_1 : decode cX9_mix 1 = .ok (.ldc2_w 284, 3) := by decide +kernel
theorem dX9_mix_4 : decode cX9_mix 4 = .ok (.aload_n 0, 1) := by decide +kernel
theorem dX9_mix_5 : decode cX9_mix 5 = .ok (.getfield 286, 3) := by decide +kernel
theorem dX9_mix_8 : decode cX9_mix 8 = .ok (.lmul, 1) := by decide +kernel
theorem dX9_mix_9 : decode cX9_mix 9 = .ok (.lload_n 1, 1) := by decide +kernel
theorem dX9_mix_10 : decode cX9_mix 10 = .ok (.ladd, 1) := by decide +kernel
theorem dX9_mix_11 : decode cX9_mix 11 = .ok (.putfield 286, 3) := by decide +kernel
theorem dX9_mix_14 : decode cX9_mix 14 = .ok (.return_, 1) := by decide +kernel
theorem dX9_mixPlayer_0 : decode cX9_mixPlayer 0 = .ok (.iconst 0, 1) := by decide +kernel
theorem dX9_mixPlayer_1 : decode cX9_mixPlayer 1 = .ok (.istore_n 2, 1) := by decide +kernel
theorem dX9_mixPlayer_2 : decode cX9_mixPlayer 2 = .ok (.iload_n 2, 1) := by decide +kernel
theorem dX9_mixPlayer_3 : decode cX9_mixPlayer 3 = .ok (.bipush 7, 2) := by decide +kernel
theorem dX9_mixPlayer_5 : decode cX9_mixPlayer 5 = .ok (.if_icmp .ge 20, 3) := by decide +kernel
theorem dX9_mixPlayer_8 : decode cX9_mixPlayer 8 = .ok (.aload_n 0, 1) := by decide +kernel
theorem dX9_mixPlayer_9 : decode cX9_mixPlayer 9 = .ok (.aload_n 0, 1) := by decide +kernel
theorem dX9_mixPlayer_10 : decode cX9_mixPlayer 10 = .ok (.iload_n 1, 1) := by decide +kernel
theorem dX9_mixPlayer_11 : decode cX9_mixPlayer 11 = .ok (.iload_n 2, 1) := by decide +kernel
theorem dX9_mixPlayer_12 : decode cX9_mixPlayer 12 = .ok (.invokevirtual 151, 3) := by decide +kernel
theorem dX9_mixPlayer_15 : decode cX9_mixPlayer 15 = .ok (.i2l, 1) := by decide +kernel
theorem dX9_mixPlayer_16 : decode cX9_mixPlayer 16 = .ok (.invokevirtual 289, 3) := by decide +kernel
theorem dX9_mixPlayer_19 : decode cX9_mixPlayer 19 = .ok (.iinc 2 1, 3) := by decide +kernel
theorem dX9_mixPlayer_22 : decode cX9_mixPlayer 22 = .ok (.goto (-20), 3) := by decide +kernel
theorem dX9_mixPlayer_25 : decode cX9_mixPlayer 25 = .ok (.aload_n 0, 1) := by decide +kernel
theorem dX9_mixPlayer_26 : decode cX9_mixPlayer 26 = .ok (.aload_n 0, 1) := by decide +kernel
theorem dX9_mixPlayer_27 : decode cX9_mixPlayer 27 = .ok (.iload_n 1, 1) := by decide +kernel
theorem dX9_mixPlayer_28 : decode cX9_mixPlayer 28 = .ok (.iconst 0, 1) := by decide +kernel
theorem dX9_mixPlayer_29 : decode cX9_mixPlayer 29 = .ok (.invokevirtual 197, 3) := by decide +kernel
theorem dX9_mixPlayer_32 : decode cX9_mixPlayer 32 = .ok (.i2l, 1) := by decide +kernel
theorem dX9_mixPlayer_33 : decode cX9_mixPlayer 33 = .ok (.invokevirtual 289, 3) := by decide +kernel
theorem dX9_mixPlayer_36 : decode cX9_mixPlayer 36 = .ok (.aload_n 0, 1) := by decide +kernel
theorem dX9_mixPlayer_37 : decode cX9_mixPlayer 37 = .ok (.aload_n 0, 1) := by decide +kernel
theorem dX9_mixPlayer_38 : decode cX9_mixPlayer 38 = .ok (.iload_n 1, 1) := by decide +kernel
theorem dX9_mixPlayer_39 : decode cX9_mixPlayer 39 = .ok (.iconst 1, 1) := by decide +kernel
theorem dX9_mixPlayer_40 : decode cX9_mixPlayer 40 = .ok (.invokevirtual 197, 3) := by decide +kernel
theorem dX9_mixPlayer_43 : decode cX9_mixPlayer 43 = .ok (.i2l, 1) := by decide +kernel
theorem dX9_mixPlayer_44 : decode cX9_mixPlayer 44 = .ok (.invokevirtual 289, 3) := by decide +kernel
theorem dX9_mixPlayer_47 : decode cX9_mixPlayer 47 = .ok (.aload_n 0, 1) := by decide +kernel
theorem dX9_mixPlayer_48 : decode cX9_mixPlayer 48 = .ok (.aload_n 0, 1) := by decide +kernel
theorem dX9_mixPlayer_49 : decode cX9_mixPlayer 49 = .ok (.iload_n 1, 1) := by decide +kernel
theorem dX9_mixPlayer_50 : decode cX9_mixPlayer 50 = .ok (.bipush 9, 2) := by decide +kernel
theorem dX9_mixPlayer_52 : decode cX9_mixPlayer 52 = .ok (.iconst 0, 1) := by decide +kernel
theorem dX9_mixPlayer_53 : decode cX9_mixPlayer 53 = .ok (.invokevirtual 232, 3) := by decide +kernel
theorem dX9_mixPlayer_56 : decode cX9_mixPlayer 56 = .ok (.i2l, 1) := by decide +kernel
theorem dX9_mixPlayer_57 : decode cX9_mixPlayer 57 = .ok (.invokevirtual 289, 3) := by decide +kernel
theorem dX9_mixPlayer_60 : decode cX9_mixPlayer 60 = .ok (.aload_n 0, 1) := by decide +kernel
theorem dX9_mixPlayer_61 : decode cX9_mixPlayer 61 = .ok (.aload_n 0, 1) := by decide +kernel
theorem dX9_mixPlayer_62 : decode cX9_mixPlayer 62 = .ok (.iload_n 1, 1) := by decide +kernel
theorem dX9_mixPlayer_63 : decode cX9_mixPlayer 63 = .ok (.bipush 9, 2) := by decide +kernel
theorem dX9_mixPlayer_65 : decode cX9_mixPlayer 65 = .ok (.iconst 1, 1) := by decide +kernel
theorem dX9_mixPlayer_66 : decode cX9_mixPlayer 66 = .ok (.invokevirtual 232, 3) := by decide +kernel
theorem dX9_mixPlayer_69 : decode cX9_mixPlayer 69 = .ok (.i2l, 1) := by decide +kernel
theorem dX9_mixPlayer_70 : decode cX9_mixPlayer 70 = .ok (.invokevirtual 289, 3) := by decide +kernel
theorem dX9_mixPlayer_73 : decode cX9_mixPlayer 73 = .ok (.return_, 1) := by decide +kernel
theorem dX9_digest_0 : decode cX9_digest 0 = .ok (.aload_n 0, 1) := by decide +kernel
theorem dX9_digest_1 : decode cX9_digest 1 = .ok (.ldc2_w 293, 3) := by decide +kernel
theorem dX9_digest_4 : decode cX9_digest 4 = .ok (.putfield 286, 3) := by decide +kernel
theorem dX9_digest_7 : decode cX9_digest 7 = .ok (.iconst 0, 1) := by decide +kernel
theorem dX9_digest_8 : decode cX9_digest 8 = .ok (.istore_n 1, 1) := by decide +kernel
theorem dX9_digest_9 : decode cX9_digest 9 = .ok (.iload_n 1, 1) := by decide +kernel
theorem dX9_digest_10 : decode cX9_digest 10 = .ok (.aload_n 0, 1) := by decide +kernel
theorem dX9_digest_11 : decode cX9_digest 11 = .ok (.getfield 101, 3) := by decide +kernel
theorem dX9_digest_14 : decode cX9_digest 14 = .ok (.if_icmp .ge 14, 3) := by decide +kernel
theorem dX9_digest_17 : decode cX9_digest 17 = .ok (.aload_n 0, 1) := by decide +kernel
theorem dX9_digest_18 : decode cX9_digest 18 = .ok (.iload_n 1, 1) := by decide +kernel
theorem dX9_digest_19 : decode cX9_digest 19 = .ok (.invokevirtual 295, 3) := by decide +kernel
theorem dX9_digest_22 : decode cX9_digest 22 = .ok (.iinc 1 1, 3) := by decide +kernel
theorem dX9_digest_25 : decode cX9_digest 25 = .ok (.goto (-16), 3) := by decide +kernel
theorem dX9_digest_28 : decode cX9_digest 28 = .ok (.aload_n 0, 1) := by decide +kernel
theorem dX9_digest_29 : decode cX9_digest 29 = .ok (.aload_n 0, 1) := by decide +kernel
theorem dX9_digest_30 : decode cX9_digest 30 = .ok (.iconst 0, 1) := by decide +kernel
theorem dX9_digest_31 : decode cX9_digest 31 = .ok (.iconst 1, 1) := by decide +kernel
theorem dX9_digest_32 : decode cX9_digest 32 = .ok (.invokevirtual 299, 3) := by decide +kernel
theorem dX9_digest_35 : decode cX9_digest 35 = .ok (.i2l, 1) := by decide +kernel
theorem dX9_digest_36 : decode cX9_digest 36 = .ok (.invokevirtual 289, 3) := by decide +kernel
theorem dX9_digest_39 : decode cX9_digest 39 = .ok (.aload_n 0, 1) := by decide +kernel
theorem dX9_digest_40 : decode cX9_digest 40 = .ok (.aload_n 0, 1) := by decide +kernel
theorem dX9_digest_41 : decode cX9_digest 41 = .ok (.iconst 1, 1) := by decide +kernel
theorem dX9_digest_42 : decode cX9_digest 42 = .ok (.iconst 0, 1) := by decide +kernel
theorem dX9_digest_43 : decode cX9_digest 43 = .ok (.invokevirtual 299, 3) := by decide +kernel
theorem dX9_digest_46 : decode cX9_digest 46 = .ok (.i2l, 1) := by decide +kernel
theorem dX9_digest_47 : decode cX9_digest 47 = .ok (.invokevirtual 289, 3) := by decide +kernel
theorem dX9_digest_50 : decode cX9_digest 50 = .ok (.aload_n 0, 1) := by decide +kernel
theorem dX9_digest_51 : decode cX9_digest 51 = .ok (.getfield 101, 3) := by decide +kernel
theorem dX9_digest_54 : decode cX9_digest 54 = .ok (.ifCond .le 12, 3) := by decide +kernel
theorem dX9_digest_57 : decode cX9_digest 57 = .ok (.aload_n 0, 1) := by decide +kernel
theorem dX9_digest_58 : decode cX9_digest 58 = .ok (.aload_n 0, 1) := by decide +kernel
theorem dX9_digest_59 : decode cX9_digest 59 = .ok (.invokevirtual 217, 3) := by decide +kernel
theorem dX9_digest_62 : decode cX9_digest 62 = .ok (.i2l, 1) := by decide +kernel
theorem dX9_digest_63 : decode cX9_digest 63 = .ok (.invokevirtual 289, 3) := by decide +kernel
theorem dX9_digest_66 : decode cX9_digest 66 = .ok (.iconst 0, 1) := by decide +kernel
theorem dX9_digest_67 : decode cX9_digest 67 = .ok (.istore_n 1, 1) := by decide +kernel
theorem dX9_digest_68 : decode cX9_digest 68 = .ok (.iload_n 1, 1) := by decide +kernel
theorem dX9_digest_69 : decode cX9_digest 69 = .ok (.aload_n 0, 1) := by decide +kernel
theorem dX9_digest_70 : decode cX9_digest 70 = .ok (.getfield 70, 3) := by decide +kernel
theorem dX9_digest_73 : decode cX9_digest 73 = .ok (.if_icmp .ge 20, 3) := by decide +kernel
theorem dX9_digest_76 : decode cX9_digest 76 = .ok (.aload_n 0, 1) := by decide +kernel
theorem dX9_digest_77 : decode cX9_digest 77 = .ok (.aload_n 0, 1) := by decide +kernel
theorem dX9_digest_78 : decode cX9_digest 78 = .ok (.getfield 28, 3) := by decide +kernel
theorem dX9_digest_81 : decode cX9_digest 81 = .ok (.iload_n 1, 1) := by decide +kernel
theorem dX9_digest_82 : decode cX9_digest 82 = .ok (.baload, 1) := by decide +kernel
theorem dX9_digest_83 : decode cX9_digest 83 = .ok (.i2l, 1) := by decide +kernel
theorem dX9_digest_84 : decode cX9_digest 84 = .ok (.invokevirtual 289, 3) := by decide +kernel
theorem dX9_digest_87 : decode cX9_digest 87 = .ok (.iinc 1 1, 3) := by decide +kernel
theorem dX9_digest_90 : decode cX9_digest 90 = .ok (.goto (-22), 3) := by decide +kernel
theorem dX9_digest_93 : decode cX9_digest 93 = .ok (.iconst 0, 1) := by decide +kernel
theorem dX9_digest_94 : decode cX9_digest 94 = .ok (.istore_n 1, 1) := by decide +kernel
theorem dX9_digest_95 : decode cX9_digest 95 = .ok (.iload_n 1, 1) := by decide +kernel
theorem dX9_digest_96 : decode cX9_digest 96 = .ok (.bipush 9, 2) := by decide +kernel
theorem dX9_digest_98 : decode cX9_digest 98 = .ok (.if_icmp .ge 19, 3) := by decide +kernel
theorem dX9_digest_101 : decode cX9_digest 101 = .ok (.aload_n 0, 1) := by decide +kernel
theorem dX9_digest_102 : decode cX9_digest 102 = .ok (.aload_n 0, 1) := by decide +kernel
theorem dX9_digest_103 : decode cX9_digest 103 = .ok (.iload_n 1, 1) := by decide +kernel
theorem dX9_digest_104 : decode cX9_digest 104 = .ok (.invokevirtual 281, 3) := by decide +kernel
theorem dX9_digest_107 : decode cX9_digest 107 = .ok (.i2l, 1) := by decide +kernel
theorem dX9_digest_108 : decode cX9_digest 108 = .ok (.invokevirtual 289, 3) := by decide +kernel
theorem dX9_digest_111 : decode cX9_digest 111 = .ok (.iinc 1 1, 3) := by decide +kernel
theorem dX9_digest_114 : decode cX9_digest 114 = .ok (.goto (-19), 3) := by decide +kernel
theorem dX9_digest_117 : decode cX9_digest 117 = .ok (.aload_n 0, 1) := by decide +kernel
theorem dX9_digest_118 : decode cX9_digest 118 = .ok (.getfield 286, 3) := by decide +kernel
theorem dX9_digest_121 : decode cX9_digest 121 = .ok (.lreturn, 1) := by decide +kernel
theorem dJ11_isValidCodePoint_9a6ad_0 : decode cJ11_isValidCodePoint_9a6ad 0 = .ok (.iload_n 0, 1) := by decide +kernel
theorem dJ11_isValidCodePoint_9a6ad_1 : decode cJ11_isValidCodePoint_9a6ad 1 = .ok (.bipush 16, 2) := by decide +kernel
theorem dJ11_isValidCodePoint_9a6ad_3 : decode cJ11_isValidCodePoint_9a6ad 3 = .ok (.iushr, 1) := by decide +kernel
theorem dJ11_isValidCodePoint_9a6ad_4 : decode cJ11_isValidCodePoint_9a6ad 4 = .ok (.istore_n 1, 1) := by decide +kernel
theorem dJ11_isValidCodePoint_9a6ad_5 : decode cJ11_isValidCodePoint_9a6ad 5 = .ok (.iload_n 1, 1) := by decide +kernel
theorem dJ11_isValidCodePoint_9a6ad_6 : decode cJ11_isValidCodePoint_9a6ad 6 = .ok (.bipush 17, 2) := by decide +kernel
theorem dJ11_isValidCodePoint_9a6ad_8 : decode cJ11_isValidCodePoint_9a6ad 8 = .ok (.if_icmp .ge 7, 3) := by decide +kernel
theorem dJ11_isValidCodePoint_9a6ad_11 : decode cJ11_isValidCodePoint_9a6ad 11 = .ok (.iconst 1, 1) := by decide +kernel
theorem dJ11_isValidCodePoint_9a6ad_12 : decode cJ11_isValidCodePoint_9a6ad 12 = .ok (.goto 4, 3) := by decide +kernel
theorem dJ11_isValidCodePoint_9a6ad_15 : decode cJ11_isValidCodePoint_9a6ad 15 = .ok (.iconst 0, 1) := by decide +kernel
theorem dJ11_isValidCodePoint_9a6ad_16 : decode cJ11_isValidCodePoint_9a6ad 16 = .ok (.ireturn, 1) := by decide +kernel
theorem dJ11_highSurrogate_5068e_0 : decode cJ11_highSurrogate_5068e 0 = .ok (.iload_n 0, 1) := by decide +kernel
theorem dJ11_highSurrogate_5068e_1 : decode cJ11_highSurrogate_5068e 1 = .ok (.bipush 10, 2) := by decide +kernel
theorem dJ11_highSurrogate_5068e_3 : decode cJ11_highSurrogate_5068e 3 = .ok (.iushr, 1) := by decide +kernel
theorem dJ11_highSurrogate_5068e_4 : decode cJ11_highSurrogate_5068e 4 = .ok (.ldc 110, 2) := by decide +kernel
theorem dJ11_highSurrogate_5068e_6 : decode cJ11_highSurrogate_5068e 6 = .ok (.iadd, 1) := by decide +kernel
theorem dJ11_highSurrogate_5068e_7 : decode cJ11_highSurrogate_5068e 7 = .ok (.i2c, 1) := by decide +kernel
theorem dJ11_highSurrogate_5068e_8 : decode cJ11_highSurrogate_5068e 8 = .ok (.ireturn, 1) := by decide +kernel
theorem dJ11_lowSurrogate_5068e_0 : decode cJ11_lowSurrogate_5068e 0 = .ok (.iload_n 0, 1) := by decide +kernel
theorem dJ11_lowSurrogate_5068e_1 : decode cJ11_lowSurrogate_5068e 1 = .ok (.sipush 1023, 3) := by decide +kernel
theorem dJ11_lowSurrogate_5068e_4 : decode cJ11_lowSurrogate_5068e 4 = .ok (.iand, 1) := by decide +kernel
theorem dJ11_lowSurrogate_5068e_5 : decode cJ11_lowSurrogate_5068e 5 = .ok (.ldc 76, 2) := by decide +kernel
theorem dJ11_lowSurrogate_5068e_7 : decode cJ11_lowSurrogate_5068e 7 = .ok (.iadd, 1) := by decide +kernel
theorem dJ11_lowSurrogate_5068e_8 : decode cJ11_lowSurrogate_5068e 8 = .ok (.i2c, 1) := by decide +kernel
theorem dJ11_lowSurrogate_5068e_9 : decode cJ11_lowSurrogate_5068e 9 = .ok (.ireturn, 1) := by decide +kernel
theorem dJ6_bitCount_0f7a4_0 : decode cJ6_bitCount_0f7a4 0 = .ok (.iload_n 0, 1) := by decide +kernel
theorem dJ6_bitCount_0f7a4_1 : decode cJ6_bitCount_0f7a4 1 = .ok (.iload_n 0, 1) := by decide +kernel
theorem dJ6_bitCount_0f7a4_2 : decode cJ6_bitCount_0f7a4 2 = .ok (.iconst 1, 1) := by decide +kernel
theorem dJ6_bitCount_0f7a4_3 : decode cJ6_bitCount_0f7a4 3 = .ok (.iushr, 1) := by decide +kernel
theorem dJ6_bitCount_0f7a4_4 : decode cJ6_bitCount_0f7a4 4 = .ok (.ldc_w 265, 3) := by decide +kernel
theorem dJ6_bitCount_0f7a4_7 : decode cJ6_bitCount_0f7a4 7 = .ok (.iand, 1) := by decide +kernel
theorem dJ6_bitCount_0f7a4_8 : decode cJ6_bitCount_0f7a4 8 = .ok (.isub, 1) := by decide +kernel
theorem dJ6_bitCount_0f7a4_9 : decode cJ6_bitCount_0f7a4 9 = .ok (.istore_n 0, 1) := by decide +kernel
theorem dJ6_bitCount_0f7a4_10 : decode cJ6_bitCount_0f7a4 10 = .ok (.iload_n 0, 1) := by decide +kernel
theorem dJ6_bitCount_0f7a4_11 : decode cJ6_bitCount_0f7a4 11 = .ok (.ldc_w 266, 3) := by decide +kernel
theorem dJ6_bitCount_0f7a4_14 : decode cJ6_bitCount_0f7a4 14 = .ok (.iand, 1) := by decide +kernel
theorem dJ6_bitCount_0f7a4_15 : decode cJ6_bitCount_0f7a4 15 = .ok (.iload_n 0, 1) := by decide +kernel
theorem dJ6_bitCount_0f7a4_16 : decode cJ6_bitCount_0f7a4 16 = .ok (.iconst 2, 1) := by decide +kernel
theorem dJ6_bitCount_0f7a4_17 : decode cJ6_bitCount_0f7a4 17 = .ok (.iushr, 1) := by decide +kernel
theorem dJ6_bitCount_0f7a4_18 : decode cJ6_bitCount_0f7a4 18 = .ok (.ldc_w 266, 3) := by decide +kernel
theorem dJ6_bitCount_0f7a4_21 : decode cJ6_bitCount_0f7a4 21 = .ok (.iand, 1) := by decide +kernel
theorem dJ6_bitCount_0f7a4_22 : decode cJ6_bitCount_0f7a4 22 = .ok (.iadd, 1) := by decide +kernel
theorem dJ6_bitCount_0f7a4_23 : decode cJ6_bitCount_0f7a4 23 = .ok (.istore_n 0, 1) := by decide +kernel
theorem dJ6_bitCount_0f7a4_24 : decode cJ6_bitCount_0f7a4 24 = .ok (.iload_n 0, 1) := by decide +kernel
theorem dJ6_bitCount_0f7a4_25 : decode cJ6_bitCount_0f7a4 25 = .ok (.iload_n 0, 1) := by decide +kernel
theorem dJ6_bitCount_0f7a4_26 : decode cJ6_bitCount_0f7a4 26 = .ok (.iconst 4, 1) := by decide +kernel
theorem dJ6_bitCount_0f7a4_27 : decode cJ6_bitCount_0f7a4 27 = .ok (.iushr, 1) := by decide +kernel
theorem dJ6_bitCount_0f7a4_28 : decode cJ6_bitCount_0f7a4 28 = .ok (.iadd, 1) := by decide +kernel
theorem dJ6_bitCount_0f7a4_29 : decode cJ6_bitCount_0f7a4 29 = .ok (.ldc_w 267, 3) := by decide +kernel
theorem dJ6_bitCount_0f7a4_32 : decode cJ6_bitCount_0f7a4 32 = .ok (.iand, 1) := by decide +kernel
theorem dJ6_bitCount_0f7a4_33 : decode cJ6_bitCount_0f7a4 33 = .ok (.istore_n 0, 1) := by decide +kernel
theorem dJ6_bitCount_0f7a4_34 : decode cJ6_bitCount_0f7a4 34 = .ok (.iload_n 0, 1) := by decide +kernel
theorem dJ6_bitCount_0f7a4_35 : decode cJ6_bitCount_0f7a4 35 = .ok (.iload_n 0, 1) := by decide +kernel
theorem dJ6_bitCount_0f7a4_36 : decode cJ6_bitCount_0f7a4 36 = .ok (.bipush 8, 2) := by decide +kernel
theorem dJ6_bitCount_0f7a4_38 : decode cJ6_bitCount_0f7a4 38 = .ok (.iushr, 1) := by decide +kernel
theorem dJ6_bitCount_0f7a4_39 : decode cJ6_bitCount_0f7a4 39 = .ok (.iadd, 1) := by decide +kernel
theorem dJ6_bitCount_0f7a4_40 : decode cJ6_bitCount_0f7a4 40 = .ok (.istore_n 0, 1) := by decide +kernel
theorem dJ6_bitCount_0f7a4_41 : decode cJ6_bitCount_0f7a4 41 = .ok (.iload_n 0, 1) := by decide +kernel
theorem dJ6_bitCount_0f7a4_42 : decode cJ6_bitCount_0f7a4 42 = .ok (.iload_n 0, 1) := by decide +kernel
theorem dJ6_bitCount_0f7a4_43 : decode cJ6_bitCount_0f7a4 43 = .ok (.bipush 16, 2) := by decide +kernel
theorem dJ6_bitCount_0f7a4_45 : decode cJ6_bitCount_0f7a4 45 = .ok (.iushr, 1) := by decide +kernel
theorem dJ6_bitCount_0f7a4_46 : decode cJ6_bitCount_0f7a4 46 = .ok (.iadd, 1) := by decide +kernel
theorem dJ6_bitCount_0f7a4_47 : decode cJ6_bitCount_0f7a4 47 = .ok (.istore_n 0, 1) := by decide +kernel
theorem dJ6_bitCount_0f7a4_48 : decode cJ6_bitCount_0f7a4 48 = .ok (.iload_n 0, 1) := by decide +kernel
theorem dJ6_bitCount_0f7a4_49 : decode cJ6_bitCount_0f7a4 49 = .ok (.bipush 63, 2) := by decide +kernel
theorem dJ6_bitCount_0f7a4_51 : decode cJ6_bitCount_0f7a4 51 = .ok (.iand, 1) := by decide +kernel
theorem dJ6_bitCount_0f7a4_52 : decode cJ6_bitCount_0f7a4 52 = .ok (.ireturn, 1) := by decide +kernel
theorem dJ9_max_7cf53_0 : decode cJ9_max_7cf53 0 = .ok (.iload_n 0, 1) := by decide +kernel
theorem dJ9_max_7cf53_1 : decode cJ9_max_7cf53 1 = .ok (.iload_n 1, 1) := by decide +kernel
theorem dJ9_max_7cf53_2 : decode cJ9_max_7cf53 2 = .ok (.if_icmp .lt 7, 3) := by decide +kernel
theorem dJ9_max_7cf53_5 : decode cJ9_max_7cf53 5 = .ok (.iload_n 0, 1) := by decide +kernel
theorem dJ9_max_7cf53_6 : decode cJ9_max_7cf53 6 = .ok (.goto 4, 3) := by decide +kernel
theorem dJ9_max_7cf53_9 : decode cJ9_max_7cf53 9 = .ok (.iload_n 1, 1) := by decide +kernel
theorem dJ9_max_7cf53_10 : decode cJ9_max_7cf53 10 = .ok (.ireturn, 1) := by decide +kernel
theorem dJ9_min_7cf53_0 : decode cJ9_min_7cf53 0 = .ok (.iload_n 0, 1) := by decide +kernel
theorem dJ9_min_7cf53_1 : decode cJ9_min_7cf53 1 = .ok (.iload_n 1, 1) := by decide +kernel
theorem dJ9_min_7cf53_2 : decode cJ9_min_7cf53 2 = .ok (.if_icmp .gt 7, 3) := by decide +kernel
theorem dJ9_min_7cf53_5 : decode cJ9_min_7cf53 5 = .ok (.iload_n 0, 1) := by decide +kernel
theorem dJ9_min_7cf53_6 : decode cJ9_min_7cf53 6 = .ok (.goto 4, 3) := by decide +kernel
theorem dJ9_min_7cf53_9 : decode cJ9_min_7cf53 9 = .ok (.iload_n 1, 1) := by decide +kernel
theorem dJ9_min_7cf53_10 : decode cJ9_min_7cf53 10 = .ok (.ireturn, 1) := by decide +kernel
theorem dJ0_length_8abf5_0 : decode cJ0_length_8abf5 0 = .ok (.aload_n 0, 1) := by decide +kernel
theorem dJ0_length_8abf5_1 : decode cJ0_length_8abf5 1 = .ok (.getfield 9, 3) := by decide +kernel
theorem dJ0_length_8abf5_4 : decode cJ0_length_8abf5 4 = .ok (.arraylength, 1) := by decide +kernel
theorem dJ0_length_8abf5_5 : decode cJ0_length_8abf5 5 = .ok (.aload_n 0, 1) := by decide +kernel
theorem dJ0_length_8abf5_6 : decode cJ0_length_8abf5 6 = .ok (.invokevirtual 335, 3) := by decide +kernel
theorem dJ0_length_8abf5_9 : decode cJ0_length_8abf5 9 = .ok (.ishr, 1) := by decide +kernel
theorem dJ0_length_8abf5_10 : decode cJ0_length_8abf5 10 = .ok (.ireturn, 1) := by decide +kernel
theorem dJ0_indexOf_0f7a4_0 : decode cJ0_indexOf_0f7a4 0 = .ok (.aload_n 0, 1) := by decide +kernel
theorem dJ0_indexOf_0f7a4_1 : decode cJ0_indexOf_0f7a4 1 = .ok (.iload_n 1, 1) := by decide +kernel
theorem dJ0_indexOf_0f7a4_2 : decode cJ0_indexOf_0f7a4 2 = .ok (.iconst 0, 1) := by decide +kernel
theorem dJ0_indexOf_0f7a4_3 : decode cJ0_indexOf_0f7a4 3 = .ok (.invokevirtual 633, 3) := by decide +kernel
theorem dJ0_indexOf_0f7a4_6 : decode cJ0_indexOf_0f7a4 6 = .ok (.ireturn, 1) := by decide +kernel
theorem dJ0_indexOf_7cf53_0 : decode cJ0_indexOf_7cf53 0 = .ok (.aload_n 0, 1) := by decide +kernel
theorem dJ0_indexOf_7cf53_1 : decode cJ0_indexOf_7cf53 1 = .ok (.invokevirtual 492, 3) := by decide +kernel
theorem dJ0_indexOf_7cf53_4 : decode cJ0_indexOf_7cf53 4 = .ok (.ifCond .eq 19, 3) := by decide +kernel
theorem dJ0_indexOf_7cf53_7 : decode cJ0_indexOf_7cf53 7 = .ok (.aload_n 0, 1) := by decide +kernel
theorem dJ0_indexOf_7cf53_8 : decode cJ0_indexOf_7cf53 8 = .ok (.getfield 9, 3) := by decide +kernel
theorem dJ0_indexOf_7cf53_11 : decode cJ0_indexOf_7cf53 11 = .ok (.iload_n 1, 1) := by decide +kernel
theorem dJ0_indexOf_7cf53_12 : decode cJ0_indexOf_7cf53 12 = .ok (.iload_n 2, 1) := by decide +kernel
theorem dJ0_indexOf_7cf53_13 : decode cJ0_indexOf_7cf53 13 = .ok (.aload_n 0, 1) := by decide +kernel
theorem dJ0_indexOf_7cf53_14 : decode cJ0_indexOf_7cf53 14 = .ok (.invokevirtual 505, 3) := by decide +kernel
theorem dJ0_indexOf_7cf53_17 : decode cJ0_indexOf_7cf53 17 = .ok (.invokestatic 637, 3) := by decide +kernel
theorem dJ0_indexOf_7cf53_20 : decode cJ0_indexOf_7cf53 20 = .ok (.goto 16, 3) := by decide +kernel
theorem dJ0_indexOf_7cf53_23 : decode cJ0_indexOf_7cf53 23 = .ok (.aload_n 0, 1) := by decide +kernel
theorem dJ0_indexOf_7cf53_24 : decode cJ0_indexOf_7cf53 24 = .ok (.getfield 9, 3) := by decide +kernel
theorem dJ0_indexOf_7cf53_27 : decode cJ0_indexOf_7cf53 27 = .ok (.iload_n 1, 1) := by decide +kernel
theorem dJ0_indexOf_7cf53_28 : decode cJ0_indexOf_7cf53 28 = .ok (.iload_n 2, 1) := by decide +kernel
theorem dJ0_indexOf_7cf53_29 : decode cJ0_indexOf_7cf53 29 = .ok (.aload_n 0, 1) := by decide +kernel
theorem dJ0_indexOf_7cf53_30 : decode cJ0_indexOf_7cf53 30 = .ok (.invokevirtual 505, 3) := by decide +kernel
theorem dJ0_indexOf_7cf53_33 : decode cJ0_indexOf_7cf53 33 = .ok (.invokestatic 640, 3) := by decide +kernel
theorem dJ0_indexOf_7cf53_36 : decode cJ0_indexOf_7cf53 36 = .ok (.ireturn, 1) := by decide +kernel
theorem dJ0_coder_7d493_0 : decode cJ0_coder_7d493 0 = .ok (.getstatic 38, 3) := by decide +kernel
theorem dJ0_coder_7d493_3 : decode cJ0_coder_7d493 3 = .ok (.ifCond .eq 10, 3) := by decide +kernel
theorem dJ0_coder_7d493_6 : decode cJ0_coder_7d493 6 = .ok (.aload_n 0, 1) := by decide +kernel
theorem dJ0_coder_7d493_7 : decode cJ0_coder_7d493 7 = .ok (.getfield 15, 3) := by decide +kernel
theorem dJ0_coder_7d493_10 : decode cJ0_coder_7d493 10 = .ok (.goto 4, 3) := by decide +kernel
theorem dJ0_coder_7d493_13 : decode cJ0_coder_7d493 13 = .ok (.iconst 1, 1) := by decide +kernel
theorem dJ0_coder_7d493_14 : decode cJ0_coder_7d493 14 = .ok (.ireturn, 1) := by decide +kernel
theorem dJ0_isLatin1_aae02_0 : decode cJ0_isLatin1_aae02 0 = .ok (.getstatic 38, 3) := by decide +kernel
theorem dJ0_isLatin1_aae02_3 : decode cJ0_isLatin1_aae02 3 = .ok (.ifCond .eq 14, 3) := by decide +kernel
theorem dJ0_isLatin1_aae02_6 : decode cJ0_isLatin1_aae02 6 = .ok (.aload_n 0, 1) := by decide +kernel
theorem dJ0_isLatin1_aae02_7 : decode cJ0_isLatin1_aae02 7 = .ok (.getfield 15, 3) := by decide +kernel
theorem dJ0_isLatin1_aae02_10 : decode cJ0_isLatin1_aae02 10 = .ok (.ifCond .ne 7, 3) := by decide +kernel
theorem dJ0_isLatin1_aae02_13 : decode cJ0_isLatin1_aae02 13 = .ok (.iconst 1, 1) := by decide +kernel
theorem dJ0_isLatin1_aae02_14 : decode cJ0_isLatin1_aae02 14 = .ok (.goto 4, 3) := by decide +kernel
theorem dJ0_isLatin1_aae02_17 : decode cJ0_isLatin1_aae02 17 = .ok (.iconst 0, 1) := by decide +kernel
theorem dJ0_isLatin1_aae02_18 : decode cJ0_isLatin1_aae02 18 = .ok (.ireturn, 1) := by decide +kernel
theorem dJ0_checkBoundsBeginEnd_23922_0 : decode cJ0_checkBoundsBeginEnd_23922 0 = .ok (.iload_n 0, 1) := by decide +kernel
theorem dJ0_checkBoundsBeginEnd_23922_1 : decode cJ0_checkBoundsBeginEnd_23922 1 = .ok (.iload_n 1, 1) := by decide +kernel
theorem dJ0_checkBoundsBeginEnd_23922_2 : decode cJ0_checkBoundsBeginEnd_23922 2 = .ok (.iload_n 2, 1) := by decide +kernel
theorem dJ0_checkBoundsBeginEnd_23922_3 : decode cJ0_checkBoundsBeginEnd_23922 3 = .ok (.getstatic 1053, 3) := by decide +kernel
theorem dJ0_checkBoundsBeginEnd_23922_6 : decode cJ0_checkBoundsBeginEnd_23922 6 = .ok (.invokestatic 1062, 3) := by decide +kernel
theorem dJ0_checkBoundsBeginEnd_23922_9 : decode cJ0_checkBoundsBeginEnd_23922 9 = .ok (.pop, 1) := by decide +kernel
theorem dJ0_checkBoundsBeginEnd_23922_10 : decode cJ0_checkBoundsBeginEnd_23922 10 = .ok (.return_, 1) := by decide +kernel
theorem dJ1_canEncode_9a6ad_0 : decode cJ1_canEncode_9a6ad 0 = .ok (.iload_n 0, 1) := by decide +kernel
theorem dJ1_canEncode_9a6ad_1 : decode cJ1_canEncode_9a6ad 1 = .ok (.ifCond .lt 14, 3) := by decide +kernel
theorem dJ1_canEncode_9a6ad_4 : decode cJ1_canEncode_9a6ad 4 = .ok (.iload_n 0, 1) := by decide +kernel
theorem dJ1_canEncode_9a6ad_5 : decode cJ1_canEncode_9a6ad 5 = .ok (.sipush 255, 3) := by decide +kernel
theorem dJ1_canEncode_9a6ad_8 : decode cJ1_canEncode_9a6ad 8 = .ok (.if_icmp .gt 7, 3) := by decide +kernel
theorem dJ1_canEncode_9a6ad_11 : decode cJ1_canEncode_9a6ad 11 = .ok (.iconst 1, 1) := by decide +kernel
theorem dJ1_canEncode_9a6ad_12 : decode cJ1_canEncode_9a6ad 12 = .ok (.goto 4, 3) := by decide +kernel
theorem dJ1_canEncode_9a6ad_15 : decode cJ1_canEncode_9a6ad 15 = .ok (.iconst 0, 1) := by decide +kernel
theorem dJ1_canEncode_9a6ad_16 : decode cJ1_canEncode_9a6ad 16 = .ok (.ireturn, 1) := by decide +kernel
theorem dJ1_indexOf_4cfef_0 : decode cJ1_indexOf_4cfef 0 = .ok (.iload_n 1, 1) := by decide +kernel
theorem dJ1_indexOf_4cfef_1 : decode cJ1_indexOf_4cfef 1 = .ok (.invokestatic 88, 3) := by decide +kernel
theorem dJ1_indexOf_4cfef_4 : decode cJ1_indexOf_4cfef 4 = .ok (.ifCond .ne 5, 3) := by decide +kernel
theorem dJ1_indexOf_4cfef_7 : decode cJ1_indexOf_4cfef 7 = .ok (.iconst (-1), 1) := by decide +kernel
theorem dJ1_indexOf_4cfef_8 : decode cJ1_indexOf_4cfef 8 = .ok (.ireturn, 1) := by decide +kernel
theorem dJ1_indexOf_4cfef_9 : decode cJ1_indexOf_4cfef 9 = .ok (.iload_n 2, 1) := by decide +kernel
theorem dJ1_indexOf_4cfef_10 : decode cJ1_indexOf_4cfef 10 = .ok (.iconst 0, 1) := by decide +kernel
theorem dJ1_indexOf_4cfef_11 : decode cJ1_indexOf_4cfef 11 = .ok (.invokestatic 92, 3) := by decide +kernel
theorem dJ1_indexOf_4cfef_14 : decode cJ1_indexOf_4cfef 14 = .ok (.istore_n 2, 1) := by decide +kernel
theorem dJ1_indexOf_4cfef_15 : decode cJ1_indexOf_4cfef 15 = .ok (.iload_n 3, 1) := by decide +kernel
theorem dJ1_indexOf_4cfef_16 : decode cJ1_indexOf_4cfef 16 = .ok (.aload_n 0, 1) := by decide +kernel
theorem dJ1_indexOf_4cfef_17 : decode cJ1_indexOf_4cfef 17 = .ok (.arraylength, 1) := by decide +kernel
theorem dJ1_indexOf_4cfef_18 : decode cJ1_indexOf_4cfef 18 = .ok (.invokestatic 38, 3) := by decide +kernel
theorem dJ1_indexOf_4cfef_21 : decode cJ1_indexOf_4cfef 21 = .ok (.istore_n 3, 1) := by decide +kernel
theorem dJ1_indexOf_4cfef_22 : decode cJ1_indexOf_4cfef 22 = .ok (.iload_n 2, 1) := by decide +kernel
theorem dJ1_indexOf_4cfef_23 : decode cJ1_indexOf_4cfef 23 = .ok (.iload_n 3, 1) := by decide +kernel
theorem dJ1_indexOf_4cfef_24 : decode cJ1_indexOf_4cfef 24 = .ok (.if_icmp .lt 5, 3) := by decide +kernel
theorem dJ1_indexOf_4cfef_27 : decode cJ1_indexOf_4cfef 27 = .ok (.iconst (-1), 1) := by decide +kernel
theorem dJ1_indexOf_4cfef_28 : decode cJ1_indexOf_4cfef 28 = .ok (.ireturn, 1) := by decide +kernel
theorem dJ1_indexOf_4cfef_29 : decode cJ1_indexOf_4cfef 29 = .ok (.aload_n 0, 1) := by decide +kernel
theorem dJ1_indexOf_4cfef_30 : decode cJ1_indexOf_4cfef 30 = .ok (.iload_n 1, 1) := by decide +kernel
theorem dJ1_indexOf_4cfef_31 : decode cJ1_indexOf_4cfef 31 = .ok (.iload_n 2, 1) := by decide +kernel
theorem dJ1_indexOf_4cfef_32 : decode cJ1_indexOf_4cfef 32 = .ok (.iload_n 3, 1) := by decide +kernel
theorem dJ1_indexOf_4cfef_33 : decode cJ1_indexOf_4cfef 33 = .ok (.invokestatic 95, 3) := by decide +kernel
theorem dJ1_indexOf_4cfef_36 : decode cJ1_indexOf_4cfef 36 = .ok (.ireturn, 1) := by decide +kernel
theorem dJ1_indexOfChar_4cfef_0 : decode cJ1_indexOfChar_4cfef 0 = .ok (.iload_n 1, 1) := by decide +kernel
theorem dJ1_indexOfChar_4cfef_1 : decode cJ1_indexOfChar_4cfef 1 = .ok (.i2b, 1) := by decide +kernel
theorem dJ1_indexOfChar_4cfef_2 : decode cJ1_indexOfChar_4cfef 2 = .ok (.istore 4, 2) := by decide +kernel
theorem dJ1_indexOfChar_4cfef_4 : decode cJ1_indexOfChar_4cfef 4 = .ok (.iload_n 2, 1) := by decide +kernel
theorem dJ1_indexOfChar_4cfef_5 : decode cJ1_indexOfChar_4cfef 5 = .ok (.istore 5, 2) := by decide +kernel
theorem dJ1_indexOfChar_4cfef_7 : decode cJ1_indexOfChar_4cfef 7 = .ok (.iload 5, 2) := by decide +kernel
theorem dJ1_indexOfChar_4cfef_9 : decode cJ1_indexOfChar_4cfef 9 = .ok (.iload_n 3, 1) := by decide +kernel
theorem dJ1_indexOfChar_4cfef_10 : decode cJ1_indexOfChar_4cfef 10 = .ok (.if_icmp .ge 21, 3) := by decide +kernel
theorem dJ1_indexOfChar_4cfef_13 : decode cJ1_indexOfChar_4cfef 13 = .ok (.aload_n 0, 1) := by decide +kernel
theorem dJ1_indexOfChar_4cfef_14 : decode cJ1_indexOfChar_4cfef 14 = .ok (.iload 5, 2) := by decide +kernel
theorem dJ1_indexOfChar_4cfef_16 : decode cJ1_indexOfChar_4cfef 16 = .ok (.baload, 1) := by decide +kernel
theorem dJ1_indexOfChar_4cfef_17 : decode cJ1_indexOfChar_4cfef 17 = .ok (.iload 4, 2) := by decide +kernel
theorem dJ1_indexOfChar_4cfef_19 : decode cJ1_indexOfChar_4cfef 19 = .ok (.if_icmp .ne 6, 3) := by decide +kernel
theorem dJ1_indexOfChar_4cfef_22 : decode cJ1_indexOfChar_4cfef 22 = .ok (.iload 5, 2) := by decide +kernel
theorem dJ1_indexOfChar_4cfef_24 : decode cJ1_indexOfChar_4cfef 24 = .ok (.ireturn, 1) := by decide +kernel
theorem dJ1_indexOfChar_4cfef_25 : decode cJ1_indexOfChar_4cfef 25 = .ok (.iinc 5 1, 3) := by decide +kernel
theorem dJ1_indexOfChar_4cfef_28 : decode cJ1_indexOfChar_4cfef 28 = .ok (.goto (-21), 3) := by decide +kernel
theorem dJ1_indexOfChar_4cfef_31 : decode cJ1_indexOfChar_4cfef 31 = .ok (.iconst (-1), 1) := by decide +kernel
theorem dJ1_indexOfChar_4cfef_32 : decode cJ1_indexOfChar_4cfef 32 = .ok (.ireturn, 1) := by decide +kernel
theorem dJ2_getChar_3b067_0 : decode cJ2_getChar_3b067 0 = .ok (.getstatic 44, 3) := by decide +kernel
theorem dJ2_getChar_3b067_3 : decode cJ2_getChar_3b067 3 = .ok (.ifCond .ne 25, 3) := by decide +kernel
theorem dJ2_getChar_3b067_6 : decode cJ2_getChar_3b067 6 = .ok (.iload_n 1, 1) := by decide +kernel
theorem dJ2_getChar_3b067_7 : decode cJ2_getChar_3b067 7 = .ok (.ifCond .lt 11, 3) := by decide +kernel
theorem dJ2_getChar_3b067_10 : decode cJ2_getChar_3b067 10 = .ok (.iload_n 1, 1) := by decide +kernel
theorem dJ2_getChar_3b067_11 : decode cJ2_getChar_3b067 11 = .ok (.aload_n 0, 1) := by decide +kernel
theorem dJ2_getChar_3b067_12 : decode cJ2_getChar_3b067 12 = .ok (.invokestatic 48, 3) := by decide +kernel
theorem dJ2_getChar_3b067_15 : decode cJ2_getChar_3b067 15 = .ok (.if_icmp .lt 13, 3) := by decide +kernel
theorem dJ2_getChar_3b067_18 : decode cJ2_getChar_3b067 18 = .ok (.new 52, 3) := by decide +kernel
theorem dJ2_getChar_3b067_21 : decode cJ2_getChar_3b067 21 = .ok (.dup, 1) := by decide +kernel
theorem dJ2_getChar_3b067_22 : decode cJ2_getChar_3b067 22 = .ok (.ldc 54, 2) := by decide +kernel
theorem dJ2_getChar_3b067_24 : decode cJ2_getChar_3b067 24 = .ok (.invokespecial 56, 3) := by decide +kernel
theorem dJ2_getChar_3b067_27 : decode cJ2_getChar_3b067 27 = .ok (.athrow, 1) := by decide +kernel
theorem dJ2_getChar_3b067_28 : decode cJ2_getChar_3b067 28 = .ok (.iload_n 1, 1) := by decide +kernel
theorem dJ2_getChar_3b067_29 : decode cJ2_getChar_3b067 29 = .ok (.iconst 1, 1) := by decide +kernel
theorem dJ2_getChar_3b067_30 : decode cJ2_getChar_3b067 30 = .ok (.ishl, 1) := by decide +kernel
theorem dJ2_getChar_3b067_31 : decode cJ2_getChar_3b067 31 = .ok (.istore_n 1, 1) := by decide +kernel
theorem dJ2_getChar_3b067_32 : decode cJ2_getChar_3b067 32 = .ok (.aload_n 0, 1) := by decide +kernel
theorem dJ2_getChar_3b067_33 : decode cJ2_getChar_3b067 33 = .ok (.iload_n 1, 1) := by decide +kernel
theorem dJ2_getChar_3b067_34 : decode cJ2_getChar_3b067 34 = .ok (.iinc 1 1, 3) := by decide +kernel
theorem dJ2_getChar_3b067_37 : decode cJ2_getChar_3b067 37 = .ok (.baload, 1) := by decide +kernel
theorem dJ2_getChar_3b067_38 : decode cJ2_getChar_3b067 38 = .ok (.sipush 255, 3) := by decide +kernel
theorem dJ2_getChar_3b067_41 : decode cJ2_getChar_3b067 41 = .ok (.iand, 1) := by decide +kernel
theorem dJ2_getChar_3b067_42 : decode cJ2_getChar_3b067 42 = .ok (.getstatic 59, 3) := by decide +kernel
theorem dJ2_getChar_3b067_45 : decode cJ2_getChar_3b067 45 = .ok (.ishl, 1) := by decide +kernel
theorem dJ2_getChar_3b067_46 : decode cJ2_getChar_3b067 46 = .ok (.aload_n 0, 1) := by decide +kernel
theorem dJ2_getChar_3b067_47 : decode cJ2_getChar_3b067 47 = .ok (.iload_n 1, 1) := by decide +kernel
theorem dJ2_getChar_3b067_48 : decode cJ2_getChar_3b067 48 = .ok (.baload, 1) := by decide +kernel
theorem dJ2_getChar_3b067_49 : decode cJ2_getChar_3b067 49 = .ok (.sipush 255, 3) := by decide +kernel
theorem dJ2_getChar_3b067_52 : decode cJ2_getChar_3b067 52 = .ok (.iand, 1) := by decide +kernel
theorem dJ2_getChar_3b067_53 : decode cJ2_getChar_3b067 53 = .ok (.getstatic 63, 3) := by decide +kernel
theorem dJ2_getChar_3b067_56 : decode cJ2_getChar_3b067 56 = .ok (.ishl, 1) := by decide +kernel
theorem dJ2_getChar_3b067_57 : decode cJ2_getChar_3b067 57 = .ok (.ior, 1) := by decide +kernel
theorem dJ2_getChar_3b067_58 : decode cJ2_getChar_3b067 58 = .ok (.i2c, 1) := by decide +kernel
theorem dJ2_getChar_3b067_59 : decode cJ2_getChar_3b067 59 = .ok (.ireturn, 1) := by decide +kernel
theorem dJ2_length_9d52b_0 : decode cJ2_length_9d52b 0 = .ok (.aload_n 0, 1) := by decide +kernel
theorem dJ2_length_9d52b_1 : decode cJ2_length_9d52b 1 = .ok (.arraylength, 1) := by decide +kernel
theorem dJ2_length_9d52b_2 : decode cJ2_length_9d52b 2 = .ok (.iconst 1, 1) := by decide +kernel
theorem dJ2_length_9d52b_3 : decode cJ2_length_9d52b 3 = .ok (.ishr, 1) := by decide +kernel
theorem dJ2_length_9d52b_4 : decode cJ2_length_9d52b 4 = .ok (.ireturn, 1) := by decide +kernel
theorem dJ2_indexOf_4cfef_0 : decode cJ2_indexOf_4cfef 0 = .ok (.iload_n 2, 1) := by decide +kernel
theorem dJ2_indexOf_4cfef_1 : decode cJ2_indexOf_4cfef 1 = .ok (.iconst 0, 1) := by decide +kernel
theorem dJ2_indexOf_4cfef_2 : decode cJ2_indexOf_4cfef 2 = .ok (.invokestatic 224, 3) := by decide +kernel
theorem dJ2_indexOf_4cfef_5 : decode cJ2_indexOf_4cfef 5 = .ok (.istore_n 2, 1) := by decide +kernel
theorem dJ2_indexOf_4cfef_6 : decode cJ2_indexOf_4cfef 6 = .ok (.iload_n 3, 1) := by decide +kernel
theorem dJ2_indexOf_4cfef_7 : decode cJ2_indexOf_4cfef 7 = .ok (.aload_n 0, 1) := by decide +kernel
theorem dJ2_indexOf_4cfef_8 : decode cJ2_indexOf_4cfef 8 = .ok (.arraylength, 1) := by decide +kernel
theorem dJ2_indexOf_4cfef_9 : decode cJ2_indexOf_4cfef 9 = .ok (.iconst 1, 1) := by decide +kernel
theorem dJ2_indexOf_4cfef_10 : decode cJ2_indexOf_4cfef 10 = .ok (.ishr, 1) := by decide +kernel
theorem dJ2_indexOf_4cfef_11 : decode cJ2_indexOf_4cfef 11 = .ok (.invokestatic 183, 3) := by decide +kernel
theorem dJ2_indexOf_4cfef_14 : decode cJ2_indexOf_4cfef 14 = .ok (.istore_n 3, 1) := by decide +kernel
theorem dJ2_indexOf_4cfef_15 : decode cJ2_indexOf_4cfef 15 = .ok (.iload_n 2, 1) := by decide +kernel
theorem dJ2_indexOf_4cfef_16 : decode cJ2_indexOf_4cfef 16 = .ok (.iload_n 3, 1) := by decide +kernel
theorem dJ2_indexOf_4cfef_17 : decode cJ2_indexOf_4cfef 17 = .ok (.if_icmp .lt 5, 3) := by decide +kernel
theorem dJ2_indexOf_4cfef_20 : decode cJ2_indexOf_4cfef 20 = .ok (.iconst (-1), 1) := by decide +kernel
theorem dJ2_indexOf_4cfef_21 : decode cJ2_indexOf_4cfef 21 = .ok (.ireturn, 1) := by decide +kernel
theorem dJ2_indexOf_4cfef_22 : decode cJ2_indexOf_4cfef 22 = .ok (.iload_n 1, 1) := by decide +kernel
theorem dJ2_indexOf_4cfef_23 : decode cJ2_indexOf_4cfef 23 = .ok (.ldc 227, 2) := by decide +kernel
theorem dJ2_indexOf_4cfef_25 : decode cJ2_indexOf_4cfef 25 = .ok (.if_icmp .ge 11, 3) := by decide +kernel
theorem dJ2_indexOf_4cfef_28 : decode cJ2_indexOf_4cfef 28 = .ok (.aload_n 0, 1) := by decide +kernel
theorem dJ2_indexOf_4cfef_29 : decode cJ2_indexOf_4cfef 29 = .ok (.iload_n 1, 1) := by decide +kernel
theorem dJ2_indexOf_4cfef_30 : decode cJ2_indexOf_4cfef 30 = .ok (.iload_n 2, 1) := by decide +kernel
theorem dJ2_indexOf_4cfef_31 : decode cJ2_indexOf_4cfef 31 = .ok (.iload_n 3, 1) := by decide +kernel
theorem dJ2_indexOf_4cfef_32 : decode cJ2_indexOf_4cfef 32 = .ok (.invokestatic 228, 3) := by decide +kernel
theorem dJ2_indexOf_4cfef_35 : decode cJ2_indexOf_4cfef 35 = .ok (.ireturn, 1) := by decide +kernel
theorem dJ2_indexOf_4cfef_36 : decode cJ2_indexOf_4cfef 36 = .ok (.aload_n 0, 1) := by decide +kernel
theorem dJ2_indexOf_4cfef_37 : decode cJ2_indexOf_4cfef 37 = .ok (.iload_n 1, 1) := by decide +kernel
theorem dJ2_indexOf_4cfef_38 : decode cJ2_indexOf_4cfef 38 = .ok (.iload_n 2, 1) := by decide +kernel
theorem dJ2_indexOf_4cfef_39 : decode cJ2_indexOf_4cfef 39 = .ok (.iload_n 3, 1) := by decide +kernel
theorem dJ2_indexOf_4cfef_40 : decode cJ2_indexOf_4cfef 40 = .ok (.invokestatic 232, 3) := by decide +kernel
theorem dJ2_indexOf_4cfef_43 : decode cJ2_indexOf_4cfef 43 = .ok (.ireturn, 1) := by decide +kernel
theorem dJ2_indexOfChar_4cfef_0 : decode cJ2_indexOfChar_4cfef 0 = .ok (.iload_n 2, 1) := by decide +kernel
theorem dJ2_indexOfChar_4cfef_1 : decode cJ2_indexOfChar_4cfef 1 = .ok (.iload_n 3, 1) := by decide +kernel
theorem dJ2_indexOfChar_4cfef_2 : decode cJ2_indexOfChar_4cfef 2 = .ok (.aload_n 0, 1) := by decide +kernel
theorem dJ2_indexOfChar_4cfef_3 : decode cJ2_indexOfChar_4cfef 3 = .ok (.invokestatic 96, 3) := by decide +kernel
theorem dJ2_indexOfChar_4cfef_6 : decode cJ2_indexOfChar_4cfef 6 = .ok (.aload_n 0, 1) := by decide +kernel
theorem dJ2_indexOfChar_4cfef_7 : decode cJ2_indexOfChar_4cfef 7 = .ok (.iload_n 1, 1) := by decide +kernel
theorem dJ2_indexOfChar_4cfef_8 : decode cJ2_indexOfChar_4cfef 8 = .ok (.iload_n 2, 1) := by decide +kernel
theorem dJ2_indexOfChar_4cfef_9 : decode cJ2_indexOfChar_4cfef 9 = .ok (.iload_n 3, 1) := by decide +kernel
theorem dJ2_indexOfChar_4cfef_10 : decode cJ2_indexOfChar_4cfef 10 = .ok (.invokestatic 244, 3) := by decide +kernel
theorem dJ2_indexOfChar_4cfef_13 : decode cJ2_indexOfChar_4cfef 13 = .ok (.ireturn, 1) := by decide +kernel
theorem dJ2_indexOfCharUnsafe_4cfef_0 : decode cJ2_indexOfCharUnsafe_4cfef 0 = .ok (.iload_n 2, 1) := by decide +kernel
theorem dJ2_indexOfCharUnsafe_4cfef_1 : decode cJ2_indexOfCharUnsafe_4cfef 1 = .ok (.istore 4, 2) := by decide +kernel
theorem dJ2_indexOfCharUnsafe_4cfef_3 : decode cJ2_indexOfCharUnsafe_4cfef 3 = .ok (.iload 4, 2) := by decide +kernel
theorem dJ2_indexOfCharUnsafe_4cfef_5 : decode cJ2_indexOfCharUnsafe_4cfef 5 = .ok (.iload_n 3, 1) := by decide +kernel
theorem dJ2_indexOfCharUnsafe_4cfef_6 : decode cJ2_indexOfCharUnsafe_4cfef 6 = .ok (.if_icmp .ge 22, 3) := by decide +kernel
theorem dJ2_indexOfCharUnsafe_4cfef_9 : decode cJ2_indexOfCharUnsafe_4cfef 9 = .ok (.aload_n 0, 1) := by decide +kernel
theorem dJ2_indexOfCharUnsafe_4cfef_10 : decode cJ2_indexOfCharUnsafe_4cfef 10 = .ok (.iload 4, 2) := by decide +kernel
theorem dJ2_indexOfCharUnsafe_4cfef_12 : decode cJ2_indexOfCharUnsafe_4cfef 12 = .ok (.invokestatic 71, 3) := by decide +kernel
theorem dJ2_indexOfCharUnsafe_4cfef_15 : decode cJ2_indexOfCharUnsafe_4cfef 15 = .ok (.iload_n 1, 1) := by decide +kernel
theorem dJ2_indexOfCharUnsafe_4cfef_16 : decode cJ2_indexOfCharUnsafe_4cfef 16 = .ok (.if_icmp .ne 6, 3) := by decide +kernel
theorem dJ2_indexOfCharUnsafe_4cfef_19 : decode cJ2_indexOfCharUnsafe_4cfef 19 = .ok (.iload 4, 2) := by decide +kernel
theorem dJ2_indexOfCharUnsafe_4cfef_21 : decode cJ2_indexOfCharUnsafe_4cfef 21 = .ok (.ireturn, 1) := by decide +kernel
theorem dJ2_indexOfCharUnsafe_4cfef_22 : decode cJ2_indexOfCharUnsafe_4cfef 22 = .ok (.iinc 4 1, 3) := by decide +kernel
theorem dJ2_indexOfCharUnsafe_4cfef_25 : decode cJ2_indexOfCharUnsafe_4cfef 25 = .ok (.goto (-22), 3) := by decide +kernel
theorem dJ2_indexOfCharUnsafe_4cfef_28 : decode cJ2_indexOfCharUnsafe_4cfef 28 = .ok (.iconst (-1), 1) := by decide +kernel
theorem dJ2_indexOfCharUnsafe_4cfef_29 : decode cJ2_indexOfCharUnsafe_4cfef 29 = .ok (.ireturn, 1) := by decide +kernel
theorem dJ2_indexOfSupplementary_4cfef_0 : decode cJ2_indexOfSupplementary_4cfef 0 = .ok (.iload_n 1, 1) := by decide +kernel
theorem dJ2_indexOfSupplementary_4cfef_1 : decode cJ2_indexOfSupplementary_4cfef 1 = .ok (.invokestatic 164, 3) := by decide +kernel
theorem dJ2_indexOfSupplementary_4cfef_4 : decode cJ2_indexOfSupplementary_4cfef 4 = .ok (.ifCond .eq 65, 3) := by decide +kernel
theorem dJ2_indexOfSupplementary_4cfef_7 : decode cJ2_indexOfSupplementary_4cfef 7 = .ok (.iload_n 1, 1) := by decide +kernel
theorem dJ2_indexOfSupplementary_4cfef_8 : decode cJ2_indexOfSupplementary_4cfef 8 = .ok (.invokestatic 157, 3) := by decide +kernel
theorem dJ2_indexOfSupplementary_4cfef_11 : decode cJ2_indexOfSupplementary_4cfef 11 = .ok (.istore 4, 2) := by decide +kernel
theorem dJ2_indexOfSupplementary_4cfef_13 : decode cJ2_indexOfSupplementary_4cfef 13 = .ok (.iload_n 1, 1) := by decide +kernel
theorem dJ2_indexOfSupplementary_4cfef_14 : decode cJ2_indexOfSupplementary_4cfef 14 = .ok (.invokestatic 161, 3) := by decide +kernel
theorem dJ2_indexOfSupplementary_4cfef_17 : decode cJ2_indexOfSupplementary_4cfef 17 = .ok (.istore 5, 2) := by decide +kernel
theorem dJ2_indexOfSupplementary_4cfef_19 : decode cJ2_indexOfSupplementary_4cfef 19 = .ok (.iload_n 2, 1) := by decide +kernel
theorem dJ2_indexOfSupplementary_4cfef_20 : decode cJ2_indexOfSupplementary_4cfef 20 = .ok (.iload_n 3, 1) := by decide +kernel
theorem dJ2_indexOfSupplementary_4cfef_21 : decode cJ2_indexOfSupplementary_4cfef 21 = .ok (.aload_n 0, 1) := by decide +kernel
theorem dJ2_indexOfSupplementary_4cfef_22 : decode cJ2_indexOfSupplementary_4cfef 22 = .ok (.invokestatic 96, 3) := by decide +kernel
theorem dJ2_indexOfSupplementary_4cfef_25 : decode cJ2_indexOfSupplementary_4cfef 25 = .ok (.iload_n 2, 1) := by decide +kernel
theorem dJ2_indexOfSupplementary_4cfef_26 : decode cJ2_indexOfSupplementary_4cfef 26 = .ok (.istore 6, 2) := by decide +kernel
theorem dJ2_indexOfSupplementary_4cfef_28 : decode cJ2_indexOfSupplementary_4cfef 28 = .ok (.iload 6, 2) := by decide +kernel
theorem dJ2_indexOfSupplementary_4cfef_30 : decode cJ2_indexOfSupplementary_4cfef 30 = .ok (.iload_n 3, 1) := by decide +kernel
theorem dJ2_indexOfSupplementary_4cfef_31 : decode cJ2_indexOfSupplementary_4cfef 31 = .ok (.iconst 1, 1) := by decide +kernel
theorem dJ2_indexOfSupplementary_4cfef_32 : decode cJ2_indexOfSupplementary_4cfef 32 = .ok (.isub, 1) := by decide +kernel
theorem dJ2_indexOfSupplementary_4cfef_33 : decode cJ2_indexOfSupplementary_4cfef 33 = .ok (.if_icmp .ge 36, 3) := by decide +kernel
theorem dJ2_indexOfSupplementary_4cfef_36 : decode cJ2_indexOfSupplementary_4cfef 36 = .ok (.aload_n 0, 1) := by decide +kernel
theorem dJ2_indexOfSupplementary_4cfef_37 : decode cJ2_indexOfSupplementary_4cfef 37 = .ok (.iload 6, 2) := by decide +kernel
theorem dJ2_indexOfSupplementary_4cfef_39 : decode cJ2_indexOfSupplementary_4cfef 39 = .ok (.invokestatic 71, 3) := by decide +kernel
theorem dJ2_indexOfSupplementary_4cfef_42 : decode cJ2_indexOfSupplementary_4cfef 42 = .ok (.iload 4, 2) := by decide +kernel
theorem dJ2_indexOfSupplementary_4cfef_44 : decode cJ2_indexOfSupplementary_4cfef 44 = .ok (.if_icmp .ne 19, 3) := by decide +kernel
theorem dJ2_indexOfSupplementary_4cfef_47 : decode cJ2_indexOfSupplementary_4cfef 47 = .ok (.aload_n 0, 1) := by decide +kernel
theorem dJ2_indexOfSupplementary_4cfef_48 : decode cJ2_indexOfSupplementary_4cfef 48 = .ok (.iload 6, 2) := by decide +kernel
theorem dJ2_indexOfSupplementary_4cfef_50 : decode cJ2_indexOfSupplementary_4cfef 50 = .ok (.iconst 1, 1) := by decide +kernel
theorem dJ2_indexOfSupplementary_4cfef_51 : decode cJ2_indexOfSupplementary_4cfef 51 = .ok (.iadd, 1) := by decide +kernel
theorem dJ2_indexOfSupplementary_4cfef_52 : decode cJ2_indexOfSupplementary_4cfef 52 = .ok (.invokestatic 71, 3) := by decide +kernel
theorem dJ2_indexOfSupplementary_4cfef_55 : decode cJ2_indexOfSupplementary_4cfef 55 = .ok (.iload 5, 2) := by decide +kernel
theorem dJ2_indexOfSupplementary_4cfef_57 : decode cJ2_indexOfSupplementary_4cfef 57 = .ok (.if_icmp .ne 6, 3) := by decide +kernel
theorem dJ2_indexOfSupplementary_4cfef_60 : decode cJ2_indexOfSupplementary_4cfef 60 = .ok (.iload 6, 2) := by decide +kernel
theorem dJ2_indexOfSupplementary_4cfef_62 : decode cJ2_indexOfSupplementary_4cfef 62 = .ok (.ireturn, 1) := by decide +kernel
theorem dJ2_indexOfSupplementary_4cfef_63 : decode cJ2_indexOfSupplementary_4cfef 63 = .ok (.iinc 6 1, 3) := by decide +kernel
theorem dJ2_indexOfSupplementary_4cfef_66 : decode cJ2_indexOfSupplementary_4cfef 66 = .ok (.goto (-38), 3) := by decide +kernel
theorem dJ2_indexOfSupplementary_4cfef_69 : decode cJ2_indexOfSupplementary_4cfef 69 = .ok (.iconst (-1), 1) := by decide +kernel
theorem dJ2_indexOfSupplementary_4cfef_70 : decode cJ2_indexOfSupplementary_4cfef 70 = .ok (.ireturn, 1) := by decide +kernel
theorem dJ2_checkBoundsBeginEnd_d044e_0 : decode cJ2_checkBoundsBeginEnd_d044e 0 = .ok (.iload_n 0, 1) := by decide +kernel
theorem dJ2_checkBoundsBeginEnd_d044e_1 : decode cJ2_checkBoundsBeginEnd_d044e 1 = .ok (.iload_n 1, 1) := by decide +kernel
theorem dJ2_checkBoundsBeginEnd_d044e_2 : decode cJ2_checkBoundsBeginEnd_d044e 2 = .ok (.aload_n 2, 1) := by decide +kernel
theorem dJ2_checkBoundsBeginEnd_d044e_3 : decode cJ2_checkBoundsBeginEnd_d044e 3 = .ok (.invokestatic 48, 3) := by decide +kernel
theorem dJ2_checkBoundsBeginEnd_d044e_6 : decode cJ2_checkBoundsBeginEnd_d044e 6 = .ok (.invokestatic 241, 3) := by decide +kernel
theorem dJ2_checkBoundsBeginEnd_d044e_9 : decode cJ2_checkBoundsBeginEnd_d044e 9 = .ok (.return_, 1) := by decide +kernel
theorem dJ7_fill_53178_0 : decode cJ7_fill_53178 0 = .ok (.iconst 0, 1) := by decide +kernel
theorem dJ7_fill_53178_1 : decode cJ7_fill_53178 1 = .ok (.istore_n 2, 1) := by decide +kernel
theorem dJ7_fill_53178_2 : decode cJ7_fill_53178 2 = .ok (.aload_n 0, 1) := by decide +kernel
theorem dJ7_fill_53178_3 : decode cJ7_fill_53178 3 = .ok (.arraylength, 1) := by decide +kernel
theorem dJ7_fill_53178_4 : decode cJ7_fill_53178 4 = .ok (.istore_n 3, 1) := by decide +kernel
theorem dJ7_fill_53178_5 : decode cJ7_fill_53178 5 = .ok (.iload_n 2, 1) := by decide +kernel
theorem dJ7_fill_53178_6 : decode cJ7_fill_53178 6 = .ok (.iload_n 3, 1) := by decide +kernel
theorem dJ7_fill_53178_7 : decode cJ7_fill_53178 7 = .ok (.if_icmp .ge 13, 3) := by decide +kernel
theorem dJ7_fill_53178_10 : decode cJ7_fill_53178 10 = .ok (.aload_n 0, 1) := by decide +kernel
theorem dJ7_fill_53178_11 : decode cJ7_fill_53178 11 = .ok (.iload_n 2, 1) := by decide +kernel
theorem dJ7_fill_53178_12 : decode cJ7_fill_53178 12 = .ok (.iload_n 1, 1) := by decide +kernel
theorem dJ7_fill_53178_13 : decode cJ7_fill_53178 13 = .ok (.iastore, 1) := by decide +kernel
theorem dJ7_fill_53178_14 : decode cJ7_fill_53178 14 = .ok (.iinc 2 1, 3) := by decide +kernel
theorem dJ7_fill_53178_17 : decode cJ7_fill_53178 17 = .ok (.goto (-12), 3) := by decide +kernel
theorem dJ7_fill_53178_20 : decode cJ7_fill_53178 20 = .ok (.return_, 1) := by decide +kernel
theorem dJ3_checkFromToIndex_8c36e_0 : decode cJ3_checkFromToIndex_8c36e 0 = .ok (.iload_n 0, 1) := by decide +kernel
theorem dJ3_checkFromToIndex_8c36e_1 : decode cJ3_checkFromToIndex_8c36e 1 = .ok (.ifCond .lt 13, 3) := by decide +kernel
theorem dJ3_checkFromToIndex_8c36e_4 : decode cJ3_checkFromToIndex_8c36e 4 = .ok (.iload_n 0, 1) := by decide +kernel
theorem dJ3_checkFromToIndex_8c36e_5 : decode cJ3_checkFromToIndex_8c36e 5 = .ok (.iload_n 1, 1) := by decide +kernel
theorem dJ3_checkFromToIndex_8c36e_6 : decode cJ3_checkFromToIndex_8c36e 6 = .ok (.if_icmp .gt 8, 3) := by decide +kernel
theorem dJ3_checkFromToIndex_8c36e_9 : decode cJ3_checkFromToIndex_8c36e 9 = .ok (.iload_n 1, 1) := by decide +kernel
theorem dJ3_checkFromToIndex_8c36e_10 : decode cJ3_checkFromToIndex_8c36e 10 = .ok (.iload_n 2, 1) := by decide +kernel
theorem dJ3_checkFromToIndex_8c36e_11 : decode cJ3_checkFromToIndex_8c36e 11 = .ok (.if_icmp .le 11, 3) := by decide +kernel
theorem dJ3_checkFromToIndex_8c36e_14 : decode cJ3_checkFromToIndex_8c36e 14 = .ok (.aload_n 3, 1) := by decide +kernel
theorem dJ3_checkFromToIndex_8c36e_15 : decode cJ3_checkFromToIndex_8c36e 15 = .ok (.iload_n 0, 1) := by decide +kernel
theorem dJ3_checkFromToIndex_8c36e_16 : decode cJ3_checkFromToIndex_8c36e 16 = .ok (.iload_n 1, 1) := by decide +kernel
theorem dJ3_checkFromToIndex_8c36e_17 : decode cJ3_checkFromToIndex_8c36e 17 = .ok (.iload_n 2, 1) := by decide +kernel
theorem dJ3_checkFromToIndex_8c36e_18 : decode cJ3_checkFromToIndex_8c36e 18 = .ok (.invokestatic 99, 3) := by decide +kernel
theorem dJ3_checkFromToIndex_8c36e_21 : decode cJ3_checkFromToIndex_8c36e 21 = .ok (.athrow, 1) := by decide +kernel
theorem dJ3_checkFromToIndex_8c36e_22 : decode cJ3_checkFromToIndex_8c36e 22 = .ok (.iload_n 0, 1) := by decide +kernel
theorem dJ3_checkFromToIndex_8c36e_23 : decode cJ3_checkFromToIndex_8c36e 23 = .ok (.ireturn, 1) := by decide +kernel
theorem dL_law_0 : decode cL_law 0 = .ok (.new 7, 3) := by decide +kernel
theorem dL_law_3 : decode cL_law 3 = .ok (.dup, 1) := by decide +kernel
theorem dL_law_4 : decode cL_law 4 = .ok (.invokespecial 9, 3) := by decide +kernel
theorem dL_law_7 : decode cL_law 7 = .ok (.astore_n 1, 1) := by decide +kernel
theorem dL_law_8 : decode cL_law 8 = .ok (.new 10, 3) := by decide +kernel
theorem dL_law_11 : decode cL_law 11 = .ok (.dup, 1) := by decide +kernel
theorem dL_law_12 : decode cL_law 12 = .ok (.invokespecial 12, 3) := by decide +kernel
theorem dL_law_15 : decode cL_law 15 = .ok (.astore_n 2, 1) := by decide +kernel
theorem dL_law_16 : decode cL_law 16 = .ok (.iconst 0, 1) := by decide +kernel
theorem dL_law_17 : decode cL_law 17 = .ok (.istore_n 3, 1) := by decide +kernel
theorem dL_law_18 : decode cL_law 18 = .ok (.iload_n 3, 1) := by decide +kernel
theorem dL_law_19 : decode cL_law 19 = .ok (.aload_n 0, 1) := by decide +kernel
theorem dL_law_20 : decode cL_law 20 = .ok (.arraylength, 1) := by decide +kernel
theorem dL_law_21 : decode cL_law 21 = .ok (.iconst 4, 1) := by decide +kernel
theorem dL_law_22 : decode cL_law 22 = .ok (.isub, 1) := by decide +kernel
theorem dL_law_23 : decode cL_law 23 = .ok (.if_icmp .gt 709, 3) := by decide +kernel
theorem dL_law_26 : decode cL_law 26 = .ok (.aload_n 0, 1) := by decide +kernel
theorem dL_law_27 : decode cL_law 27 = .ok (.iload_n 3, 1) := by decide +kernel
theorem dL_law_28 : decode cL_law 28 = .ok (.iaload, 1) := by decide +kernel
theorem dL_law_29 : decode cL_law 29 = .ok (.bipush 31, 2) := by decide +kernel
theorem dL_law_31 : decode cL_law 31 = .ok (.iand, 1) := by decide +kernel
theorem dL_law_32 : decode cL_law 32 = .ok (.tableswitch 694 0 22 #[108, 131, 144, 157, 170, 203, 236, 269, 292, 305, 338, 371, 404, 437, 460, 473, 516, 575, 588, 631, 644, 657, 680], 108) := by decide +kernel
theorem dL_law_140 : decode cL_law 140 = .ok (.aload_n 1, 1) := by decide +kernel
theorem dL_law_141 : decode cL_law 141 = .ok (.aload_n 0, 1) := by decide +kernel
theorem dL_law_142 : decode cL_law 142 = .ok (.iload_n 3, 1) := by decide +kernel
theorem dL_law_143 : decode cL_law 143 = .ok (.iconst 1, 1) := by decide +kernel
theorem dL_law_144 : decode cL_law 144 = .ok (.iadd, 1) := by decide +kernel
theorem dL_law_145 : decode cL_law 145 = .ok (.iaload, 1) := by decide +kernel
theorem dL_law_146 : decode cL_law 146 = .ok (.invokevirtual 13, 3) := by decide +kernel
theorem dL_law_149 : decode cL_law 149 = .ok (.aload_n 2, 1) := by decide +kernel
theorem dL_law_150 : decode cL_law 150 = .ok (.aload_n 0, 1) := by decide +kernel
theorem dL_law_151 : decode cL_law 151 = .ok (.iload_n 3, 1) := by decide +kernel
theorem dL_law_152 : decode cL_law 152 = .ok (.iconst 1, 1) := by decide +kernel
theorem dL_law_153 : decode cL_law 153 = .ok (.iadd, 1) := by decide +kernel
theorem dL_law_154 : decode cL_law 154 = .ok (.iaload, 1) := by decide +kernel
theorem dL_law_155 : decode cL_law 155 = .ok (.invokevirtual 17, 3) := by decide +kernel
theorem dL_law_158 : decode cL_law 158 = .ok (.if_icmp .eq 568, 3) := by decide +kernel
theorem dL_law_161 : decode cL_law 161 = .ok (.iconst 0, 1) := by decide +kernel
theorem dL_law_162 : decode cL_law 162 = .ok (.ireturn, 1) := by decide +kernel
theorem dL_law_163 : decode cL_law 163 = .ok (.aload_n 1, 1) := by decide +kernel
theorem dL_law_164 : decode cL_law 164 = .ok (.invokevirtual 18, 3) := by decide +kernel
theorem dL_law_167 : decode cL_law 167 = .ok (.aload_n 2, 1) := by decide +kernel
theorem dL_law_168 : decode cL_law 168 = .ok (.invokevirtual 22, 3) := by decide +kernel
theorem dL_law_171 : decode cL_law 171 = .ok (.if_icmp .eq 555, 3) := by decide +kernel
theorem dL_law_174 : decode cL_law 174 = .ok (.iconst 0, 1) := by decide +kernel
theorem dL_law_175 : decode cL_law 175 = .ok (.ireturn, 1) := by decide +kernel
theorem dL_law_176 : decode cL_law 176 = .ok (.aload_n 1, 1) := by decide +kernel
theorem dL_law_177 : decode cL_law 177 = .ok (.invokevirtual 23, 3) := by decide +kernel
theorem dL_law_180 : decode cL_law 180 = .ok (.aload_n 2, 1) := by decide +kernel
theorem dL_law_181 : decode cL_law 181 = .ok (.invokevirtual 26, 3) := by decide +kernel
theorem dL_law_184 : decode cL_law 184 = .ok (.if_icmp .eq 542, 3) := by decide +kernel
theorem dL_law_187 : decode cL_law 187 = .ok (.iconst 0, 1) := by decide +kernel
theorem dL_law_188 : decode cL_law 188 = .ok (.ireturn, 1) := by decide +kernel
theorem dL_law_189 : decode cL_law 189 = .ok (.aload_n 1, 1) := by decide +kernel
theorem dL_law_190 : decode cL_law 190 = .ok (.invokevirtual 27, 3) := by decide +kernel
theorem dL_law_193 : decode cL_law 193 = .ok (.aload_n 2, 1) := by decide +kernel
theorem dL_law_194 : decode cL_law 194 = .ok (.invokevirtual 30, 3) := by decide +kernel
theorem dL_law_197 : decode cL_law 197 = .ok (.if_icmp .eq 529, 3) := by decide +kernel
theorem dL_law_200 : decode cL_law 200 = .ok (.iconst 0, 1) := by decide +kernel
theorem dL_law_201 : decode cL_law 201 = .ok (.ireturn, 1) := by decide +kernel
theorem dL_law_202 : decode cL_law 202 = .ok (.aload_n 1, 1) := by decide +kernel
theorem dL_law_203 : decode cL_law 203 = .ok (.aload_n 0, 1) := by decide +kernel
theorem dL_law_204 : decode cL_law 204 = .ok (.iload_n 3, 1) := by decide +kernel
theorem dL_law_205 : decode cL_law 205 = .ok (.iconst 1, 1) := by decide +kernel
theorem dL_law_206 : decode cL_law 206 = .ok (.iadd, 1) := by decide +kernel
theorem dL_law_207 : decode cL_law 207 = .ok (.iaload, 1) := by decide +kernel
theorem dL_law_208 : decode cL_law 208 = .ok (.aload_n 0, 1) := by decide +kernel
theorem dL_law_209 : decode cL_law 209 = .ok (.iload_n 3, 1) := by decide +kernel
theorem dL_law_210 : decode cL_law 210 = .ok (.iconst 2, 1) := by decide +kernel
theorem dL_law_211 : decode cL_law 211 = .ok (.iadd, 1) := by decide +kernel
theorem dL_law_212 : decode cL_law 212 = .ok (.iaload, 1) := by decide +kernel
theorem dL_law_213 : decode cL_law 213 = .ok (.invokevirtual 31, 3) := by decide +kernel
theorem dL_law_216 : decode cL_law 216 = .ok (.aload_n 2, 1) := by decide +kernel
theorem dL_law_217 : decode cL_law 217 = .ok (.aload_n 0, 1) := by decide +kernel
theorem dL_law_218 : decode cL_law 218 = .ok (.iload_n 3, 1) := by decide +kernel
theorem dL_law_219 : decode cL_law 219 = .ok (.iconst 1, 1) := by decide +kernel
theorem dL_law_220 : decode cL_law 220 = .ok (.iadd, 1) := by decide +kernel
theorem dL_law_221 : decode cL_law 221 = .ok (.iaload, 1) := by decide +kernel
theorem dL_law_222 : decode cL_law 222 = .ok (.aload_n 0, 1) := by decide +kernel
theorem dL_law_223 : decode cL_law 223 = .ok (.iload_n 3, 1) := by decide +kernel
theorem dL_law_224 : decode cL_law 224 = .ok (.iconst 2, 1) := by decide +kernel
theorem dL_law_225 : decode cL_law 225 = .ok (.iadd, 1) := by decide +kernel
theorem dL_law_226 : decode cL_law 226 = .ok (.iaload, 1) := by decide +kernel
theorem dL_law_227 : decode cL_law 227 = .ok (.invokevirtual 35, 3) := by decide +kernel
theorem dL_law_230 : decode cL_law 230 = .ok (.if_icmp .eq 496, 3) := by decide +kernel
theorem dL_law_233 : decode cL_law 233 = .ok (.iconst 0, 1) := by decide +kernel
theorem dL_law_234 : decode cL_law 234 = .ok (.ireturn, 1) := by decide +kernel
theorem dL_law_235 : decode cL_law 235 = .ok (.aload_n 1, 1) := by decide +kernel
theorem dL_law_236 : decode cL_law 236 = .ok (.aload_n 0, 1) := by decide +kernel
theorem dL_law_237 : decode cL_law 237 = .ok (.iload_n 3, 1) := by decide +kernel
theorem dL_law_238 : decode cL_law 238 = .ok (.iconst 1, 1) := by decide +kernel
theorem dL_law_239 : decode cL_law 239 = .ok (.iadd, 1) := by decide +kernel
theorem dL_law_240 : decode cL_law 240 = .ok (.iaload, 1) := by decide +kernel
theorem dL_law_241 : decode cL_law 241 = .ok (.aload_n 0, 1) := by decide +kernel
theorem dL_law_242 : decode cL_law 242 = .ok (.iload_n 3, 1) := by decide +kernel
theorem dL_law_243 : decode cL_law 243 = .ok (.iconst 2, 1) := by decide +kernel
theorem dL_law_244 : decode cL_law 244 = .ok (.iadd, 1) := by decide +kernel
theorem dL_law_245 : decode cL_law 245 = .ok (.iaload, 1) := by decide +kernel
theorem dL_law_246 : decode cL_law 246 = .ok (.invokevirtual 36, 3) := by decide +kernel
theorem dL_law_249 : decode cL_law 249 = .ok (.aload_n 2, 1) := by decide +kernel
theorem dL_law_250 : decode cL_law 250 = .ok (.aload_n 0, 1) := by decide +kernel
theorem dL_law_251 : decode cL_law 251 = .ok (.iload_n 3, 1) := by decide +kernel
theorem dL_law_252 : decode cL_law 252 = .ok (.iconst 1, 1) := by decide +kernel
theorem dL_law_253 : decode cL_law 253 = .ok (.iadd, 1) := by decide +kernel
theorem dL_law_254 : decode cL_law 254 = .ok (.iaload, 1) := by decide +kernel
theorem dL_law_255 : decode cL_law 255 = .ok (.aload_n 0, 1) := by decide +kernel
theorem dL_law_256 : decode cL_law 256 = .ok (.iload_n 3, 1) := by decide +kernel
theorem dL_law_257 : decode cL_law 257 = .ok (.iconst 2, 1) := by decide +kernel
theorem dL_law_258 : decode cL_law 258 = .ok (.iadd, 1) := by decide +kernel
theorem dL_law_259 : decode cL_law 259 = .ok (.iaload, 1) := by decide +kernel
theorem dL_law_260 : decode cL_law 260 = .ok (.invokevirtual 39, 3) := by decide +kernel
theorem dL_law_263 : decode cL_law 263 = .ok (.if_icmp .eq 463, 3) := by decide +kernel
theorem dL_law_266 : decode cL_law 266 = .ok (.iconst 0, 1) := by decide +kernel
theorem dL_law_267 : decode cL_law 267 = .ok (.ireturn, 1) := by decide +kernel
theorem dL_law_268 : decode cL_law 268 = .ok (.aload_n 1, 1) := by decide +kernel
theorem dL_law_269 : decode cL_law 269 = .ok (.aload_n 0, 1) := by decide +kernel
theorem dL_law_270 : decode cL_law 270 = .ok (.iload_n 3, 1) := by decide +kernel
theorem dL_law_271 : decode cL_law 271 = .ok (.iconst 1, 1) := by decide +kernel
theorem dL_law_272 : decode cL_law 272 = .ok (.iadd, 1) := by decide +kernel
theorem dL_law_273 : decode cL_law 273 = .ok (.iaload, 1) := by decide +kernel
theorem dL_law_274 : decode cL_law 274 = .ok (.aload_n 0, 1) := by decide +kernel
theorem dL_law_275 : decode cL_law 275 = .ok (.iload_n 3, 1) := by decide +kernel
theorem dL_law_276 : decode cL_law 276 = .ok (.iconst 2, 1) := by decide +kernel
theorem dL_law_277 : decode cL_law 277 = .ok (.iadd, 1) := by decide +kernel
theorem dL_law_278 : decode cL_law 278 = .ok (.iaload, 1) := by decide +kernel
theorem dL_law_279 : decode cL_law 279 = .ok (.invokevirtual 40, 3) := by decide +kernel
theorem dL_law_282 : decode cL_law 282 = .ok (.aload_n 2, 1) := by decide +kernel
theorem dL_law_283 : decode cL_law 283 = .ok (.aload_n 0, 1) := by decide +kernel
theorem dL_law_284 : decode cL_law 284 = .ok (.iload_n 3, 1) := by decide +kernel
theorem dL_law_285 : decode cL_law 285 = .ok (.iconst 1, 1) := by decide +kernel
theorem dL_law_286 : decode cL_law 286 = .ok (.iadd, 1) := by decide +kernel
theorem dL_law_287 : decode cL_law 287 = .ok (.iaload, 1) := by decide +kernel
theorem dL_law_288 : decode cL_law 288 = .ok (.aload_n 0, 1) := by decide +kernel
theorem dL_law_289 : decode cL_law 289 = .ok (.iload_n 3, 1) := by decide +kernel
theorem dL_law_290 : decode cL_law 290 = .ok (.iconst 2, 1) := by decide +kernel
theorem dL_law_291 : decode cL_law 291 = .ok (.iadd, 1) := by decide +kernel
theorem dL_law_292 : decode cL_law 292 = .ok (.iaload, 1) := by decide +kernel
theorem dL_law_293 : decode cL_law 293 = .ok (.invokevirtual 43, 3) := by decide +kernel
theorem dL_law_296 : decode cL_law 296 = .ok (.if_icmp .eq 430, 3) := by decide +kernel
theorem dL_law_299 : decode cL_law 299 = .ok (.iconst 0, 1) := by decide +kernel
theorem dL_law_300 : decode cL_law 300 = .ok (.ireturn, 1) := by decide +kernel
theorem dL_law_301 : decode cL_law 301 = .ok (.aload_n 1, 1) := by decide +kernel
theorem dL_law_302 : decode cL_law 302 = .ok (.aload_n 0, 1) := by decide +kernel
theorem dL_law_303 : decode cL_law 303 = .ok (.iload_n 3, 1) := by decide +kernel
theorem dL_law_304 : decode cL_law 304 = .ok (.iconst 1, 1) := by decide +kernel
theorem dL_law_305 : decode cL_law 305 = .ok (.iadd, 1) := by decide +kernel
theorem dL_law_306 : decode cL_law 306 = .ok (.iaload, 1) := by decide +kernel
theorem dL_law_307 : decode cL_law 307 = .ok (.invokevirtual 44, 3) := by decide +kernel
theorem dL_law_310 : decode cL_law 310 = .ok (.aload_n 2, 1) := by decide +kernel
theorem dL_law_311 : decode cL_law 311 = .ok (.aload_n 0, 1) := by decide +kernel
theorem dL_law_312 : decode cL_law 312 = .ok (.iload_n 3, 1) := by decide +kernel
theorem dL_law_313 : decode cL_law 313 = .ok (.iconst 1, 1) := by decide +kernel
theorem dL_law_314 : decode cL_law 314 = .ok (.iadd, 1) := by decide +kernel
theorem dL_law_315 : decode cL_law 315 = .ok (.iaload, 1) := by decide +kernel
theorem dL_law_316 : decode cL_law 316 = .ok (.invokevirtual 47, 3) := by decide +kernel
theorem dL_law_319 : decode cL_law 319 = .ok (.if_icmp .eq 407, 3) := by decide +kernel
theorem dL_law_322 : decode cL_law 322 = .ok (.iconst 0, 1) := by decide +kernel
theorem dL_law_323 : decode cL_law 323 = .ok (.ireturn, 1) := by decide +kernel
theorem dL_law_324 : decode cL_law 324 = .ok (.aload_n 1, 1) := by decide +kernel
theorem dL_law_325 : decode cL_law 325 = .ok (.invokevirtual 48, 3) := by decide +kernel
theorem dL_law_328 : decode cL_law 328 = .ok (.aload_n 2, 1) := by decide +kernel
theorem dL_law_329 : decode cL_law 329 = .ok (.invokevirtual 51, 3) := by decide +kernel
theorem dL_law_332 : decode cL_law 332 = .ok (.if_icmp .eq 394, 3) := by decide +kernel
theorem dL_law_335 : decode cL_law 335 = .ok (.iconst 0, 1) := by decide +kernel
theorem dL_law_336 : decode cL_law 336 = .ok (.ireturn, 1) := by decide +kernel
theorem dL_law_337 : decode cL_law 337 = .ok (.aload_n 1, 1) := by decide +kernel
theorem dL_law_338 : decode cL_law 338 = .ok (.aload_n 0, 1) := by decide +kernel
theorem dL_law_339 : decode cL_law 339 = .ok (.iload_n 3, 1) := by decide +kernel
theorem dL_law_340 : decode cL_law 340 = .ok (.iconst 1, 1) := by decide +kernel
theorem dL_law_341 : decode cL_law 341 = .ok (.iadd, 1) := by decide +kernel
theorem dL_law_342 : decode cL_law 342 = .ok (.iaload, 1) := by decide +kernel
theorem dL_law_343 : decode cL_law 343 = .ok (.aload_n 0, 1) := by decide +kernel
theorem dL_law_344 : decode cL_law 344 = .ok (.iload_n 3, 1) := by decide +kernel
theorem dL_law_345 : decode cL_law 345 = .ok (.iconst 2, 1) := by decide +kernel
theorem dL_law_346 : decode cL_law 346 = .ok (.iadd, 1) := by decide +kernel
theorem dL_law_347 : decode cL_law 347 = .ok (.iaload, 1) := by decide +kernel
theorem dL_law_348 : decode cL_law 348 = .ok (.invokevirtual 52, 3) := by decide +kernel
theorem dL_law_351 : decode cL_law 351 = .ok (.aload_n 2, 1) := by decide +kernel
theorem dL_law_352 : decode cL_law 352 = .ok (.aload_n 0, 1) := by decide +kernel
theorem dL_law_353 : decode cL_law 353 = .ok (.iload_n 3, 1) := by decide +kernel
theorem dL_law_354 : decode cL_law 354 = .ok (.iconst 1, 1) := by decide +kernel
theorem dL_law_355 : decode cL_law 355 = .ok (.iadd, 1) := by decide +kernel
theorem dL_law_356 : decode cL_law 356 = .ok (.iaload, 1) := by decide +kernel
theorem dL_law_357 : decode cL_law 357 = .ok (.aload_n 0, 1) := by decide +kernel
theorem dL_law_358 : decode cL_law 358 = .ok (.iload_n 3, 1) := by decide +kernel
theorem dL_law_359 : decode cL_law 359 = .ok (.iconst 2, 1) := by decide +kernel
theorem dL_law_360 : decode cL_law 360 = .ok (.iadd, 1) := by decide +kernel
theorem dL_law_361 : decode cL_law 361 = .ok (.iaload, 1) := by decide +kernel
theorem dL_law_362 : decode cL_law 362 = .ok (.invokevirtual 55, 3) := by decide +kernel
theorem dL_law_365 : decode cL_law 365 = .ok (.if_icmp .eq 361, 3) := by decide +kernel
theorem dL_law_368 : decode cL_law 368 = .ok (.iconst 0, 1) := by decide +kernel
theorem dL_law_369 : decode cL_law 369 = .ok (.ireturn, 1) := by decide +kernel
theorem dL_law_370 : decode cL_law 370 = .ok (.aload_n 1, 1) := by decide +kernel
theorem dL_law_371 : decode cL_law 371 = .ok (.aload_n 0, 1) := by decide +kernel
theorem dL_law_372 : decode cL_law 372 = .ok (.iload_n 3, 1) := by decide +kernel
theorem dL_law_373 : decode cL_law 373 = .ok (.iconst 1, 1) := by decide +kernel
theorem dL_law_374 : decode cL_law 374 = .ok (.iadd, 1) := by decide +kernel
theorem dL_law_375 : decode cL_law 375 = .ok (.iaload, 1) := by decide +kernel
theorem dL_law_376 : decode cL_law 376 = .ok (.aload_n 0, 1) := by decide +kernel
theorem dL_law_377 : decode cL_law 377 = .ok (.iload_n 3, 1) := by decide +kernel
theorem dL_law_378 : decode cL_law 378 = .ok (.iconst 2, 1) := by decide +kernel
theorem dL_law_379 : decode cL_law 379 = .ok (.iadd, 1) := by decide +kernel
theorem dL_law_380 : decode cL_law 380 = .ok (.iaload, 1) := by decide +kernel
theorem dL_law_381 : decode cL_law 381 = .ok (.invokevirtual 56, 3) := by decide +kernel
theorem dL_law_384 : decode cL_law 384 = .ok (.aload_n 2, 1) := by decide +kernel
theorem dL_law_385 : decode cL_law 385 = .ok (.aload_n 0, 1) := by decide +kernel
theorem dL_law_386 : decode cL_law 386 = .ok (.iload_n 3, 1) := by decide +kernel
theorem dL_law_387 : decode cL_law 387 = .ok (.iconst 1, 1) := by decide +kernel
theorem dL_law_388 : decode cL_law 388 = .ok (.iadd, 1) := by decide +kernel
theorem dL_law_389 : decode cL_law 389 = .ok (.iaload, 1) := by decide +kernel
theorem dL_law_390 : decode cL_law 390 = .ok (.aload_n 0, 1) := by decide +kernel
theorem dL_law_391 : decode cL_law 391 = .ok (.iload_n 3, 1) := by decide +kernel
theorem dL_law_392 : decode cL_law 392 = .ok (.iconst 2, 1) := by decide +kernel
theorem dL_law_393 : decode cL_law 393 = .ok (.iadd, 1) := by decide +kernel
theorem dL_law_394 : decode cL_law 394 = .ok (.iaload, 1) := by decide +kernel
theorem dL_law_395 : decode cL_law 395 = .ok (.invokevirtual 59, 3) := by decide +kernel
theorem dL_law_398 : decode cL_law 398 = .ok (.if_icmp .eq 328, 3) := by decide +kernel
theorem dL_law_401 : decode cL_law 401 = .ok (.iconst 0, 1) := by decide +kernel
theorem dL_law_402 : decode cL_law 402 = .ok (.ireturn, 1) := by decide +kernel
theorem dL_law_403 : decode cL_law 403 = .ok (.aload_n 1, 1) := by decide +kernel
theorem dL_law_404 : decode cL_law 404 = .ok (.aload_n 0, 1) := by decide +kernel
theorem dL_law_405 : decode cL_law 405 = .ok (.iload_n 3, 1) := by decide +kernel
theorem dL_law_406 : decode cL_law 406 = .ok (.iconst 1, 1) := by decide +kernel
theorem dL_law_407 : decode cL_law 407 = .ok (.iadd, 1) := by decide +kernel
theorem dL_law_408 : decode cL_law 408 = .ok (.iaload, 1) := by decide +kernel
theorem dL_law_409 : decode cL_law 409 = .ok (.aload_n 0, 1) := by decide +kernel
theorem dL_law_410 : decode cL_law 410 = .ok (.iload_n 3, 1) := by decide +kernel
theorem dL_law_411 : decode cL_law 411 = .ok (.iconst 2, 1) := by decide +kernel
theorem dL_law_412 : decode cL_law 412 = .ok (.iadd, 1) := by decide +kernel
theorem dL_law_413 : decode cL_law 413 = .ok (.iaload, 1) := by decide +kernel
theorem dL_law_414 : decode cL_law 414 = .ok (.invokevirtual 60, 3) := by decide +kernel
theorem dL_law_417 : decode cL_law 417 = .ok (.aload_n 2, 1) := by decide +kernel
theorem dL_law_418 : decode cL_law 418 = .ok (.aload_n 0, 1) := by decide +kernel
theorem dL_law_419 : decode cL_law 419 = .ok (.iload_n 3, 1) := by decide +kernel
theorem dL_law_420 : decode cL_law 420 = .ok (.iconst 1, 1) := by decide +kernel
theorem dL_law_421 : decode cL_law 421 = .ok (.iadd, 1) := by decide +kernel
theorem dL_law_422 : decode cL_law 422 = .ok (.iaload, 1) := by decide +kernel
theorem dL_law_423 : decode cL_law 423 = .ok (.aload_n 0, 1) := by decide +kernel
theorem dL_law_424 : decode cL_law 424 = .ok (.iload_n 3, 1) := by decide +kernel
theorem dL_law_425 : decode cL_law 425 = .ok (.iconst 2, 1) := by decide +kernel
theorem dL_law_426 : decode cL_law 426 = .ok (.iadd, 1) := by decide +kernel
theorem dL_law_427 : decode cL_law 427 = .ok (.iaload, 1) := by decide +kernel
theorem dL_law_428 : decode cL_law 428 = .ok (.invokevirtual 63, 3) := by decide +kernel
theorem dL_law_431 : decode cL_law 431 = .ok (.if_icmp .eq 295, 3) := by decide +kernel
theorem dL_law_434 : decode cL_law 434 = .ok (.iconst 0, 1) := by decide +kernel
theorem dL_law_435 : decode cL_law 435 = .ok (.ireturn, 1) := by decide +kernel
theorem dL_law_436 : decode cL_law 436 = .ok (.aload_n 1, 1) := by decide +kernel
theorem dL_law_437 : decode cL_law 437 = .ok (.aload_n 0, 1) := by decide +kernel
theorem dL_law_438 : decode cL_law 438 = .ok (.iload_n 3, 1) := by decide +kernel
theorem dL_law_439 : decode cL_law 439 = .ok (.iconst 1, 1) := by decide +kernel
theorem dL_law_440 : decode cL_law 440 = .ok (.iadd, 1) := by decide +kernel
theorem dL_law_441 : decode cL_law 441 = .ok (.iaload, 1) := by decide +kernel
theorem dL_law_442 : decode cL_law 442 = .ok (.aload_n 0, 1) := by decide +kernel
theorem dL_law_443 : decode cL_law 443 = .ok (.iload_n 3, 1) := by decide +kernel
theorem dL_law_444 : decode cL_law 444 = .ok (.iconst 2, 1) := by decide +kernel
theorem dL_law_445 : decode cL_law 445 = .ok (.iadd, 1) := by decide +kernel
theorem dL_law_446 : decode cL_law 446 = .ok (.iaload, 1) := by decide +kernel
theorem dL_law_447 : decode cL_law 447 = .ok (.invokevirtual 64, 3) := by decide +kernel
theorem dL_law_450 : decode cL_law 450 = .ok (.aload_n 2, 1) := by decide +kernel
theorem dL_law_451 : decode cL_law 451 = .ok (.aload_n 0, 1) := by decide +kernel
theorem dL_law_452 : decode cL_law 452 = .ok (.iload_n 3, 1) := by decide +kernel
theorem dL_law_453 : decode cL_law 453 = .ok (.iconst 1, 1) := by decide +kernel
theorem dL_law_454 : decode cL_law 454 = .ok (.iadd, 1) := by decide +kernel
theorem dL_law_455 : decode cL_law 455 = .ok (.iaload, 1) := by decide +kernel
theorem dL_law_456 : decode cL_law 456 = .ok (.aload_n 0, 1) := by decide +kernel
theorem dL_law_457 : decode cL_law 457 = .ok (.iload_n 3, 1) := by decide +kernel
theorem dL_law_458 : decode cL_law 458 = .ok (.iconst 2, 1) := by decide +kernel
theorem dL_law_459 : decode cL_law 459 = .ok (.iadd, 1) := by decide +kernel
theorem dL_law_460 : decode cL_law 460 = .ok (.iaload, 1) := by decide +kernel
theorem dL_law_461 : decode cL_law 461 = .ok (.invokevirtual 67, 3) := by decide +kernel
theorem dL_law_464 : decode cL_law 464 = .ok (.if_icmp .eq 262, 3) := by decide +kernel
theorem dL_law_467 : decode cL_law 467 = .ok (.iconst 0, 1) := by decide +kernel
theorem dL_law_468 : decode cL_law 468 = .ok (.ireturn, 1) := by decide +kernel
theorem dL_law_469 : decode cL_law 469 = .ok (.aload_n 1, 1) := by decide +kernel
theorem dL_law_470 : decode cL_law 470 = .ok (.aload_n 0, 1) := by decide +kernel
theorem dL_law_471 : decode cL_law 471 = .ok (.iload_n 3, 1) := by decide +kernel
theorem dL_law_472 : decode cL_law 472 = .ok (.iconst 1, 1) := by decide +kernel
theorem dL_law_473 : decode cL_law 473 = .ok (.iadd, 1) := by decide +kernel
theorem dL_law_474 : decode cL_law 474 = .ok (.iaload, 1) := by decide +kernel
theorem dL_law_475 : decode cL_law 475 = .ok (.invokevirtual 68, 3) := by decide +kernel
theorem dL_law_478 : decode cL_law 478 = .ok (.aload_n 2, 1) := by decide +kernel
theorem dL_law_479 : decode cL_law 479 = .ok (.aload_n 0, 1) := by decide +kernel
theorem dL_law_480 : decode cL_law 480 = .ok (.iload_n 3, 1) := by decide +kernel
theorem dL_law_481 : decode cL_law 481 = .ok (.iconst 1, 1) := by decide +kernel
theorem dL_law_482 : decode cL_law 482 = .ok (.iadd, 1) := by decide +kernel
theorem dL_law_483 : decode cL_law 483 = .ok (.iaload, 1) := by decide +kernel
theorem dL_law_484 : decode cL_law 484 = .ok (.invokevirtual 71, 3) := by decide +kernel
theorem dL_law_487 : decode cL_law 487 = .ok (.if_icmp .eq 239, 3) := by decide +kernel
theorem dL_law_490 : decode cL_law 490 = .ok (.iconst 0, 1) := by decide +kernel
theorem dL_law_491 : decode cL_law 491 = .ok (.ireturn, 1) := by decide +kernel
theorem dL_law_492 : decode cL_law 492 = .ok (.aload_n 1, 1) := by decide +kernel
theorem dL_law_493 : decode cL_law 493 = .ok (.invokevirtual 72, 3) := by decide +kernel
theorem dL_law_496 : decode cL_law 496 = .ok (.aload_n 2, 1) := by decide +kernel
theorem dL_law_497 : decode cL_law 497 = .ok (.invokevirtual 75, 3) := by decide +kernel
theorem dL_law_500 : decode cL_law 500 = .ok (.if_icmp .eq 226, 3) := by decide +kernel
theorem dL_law_503 : decode cL_law 503 = .ok (.iconst 0, 1) := by decide +kernel
theorem dL_law_504 : decode cL_law 504 = .ok (.ireturn, 1) := by decide +kernel
theorem dL_law_505 : decode cL_law 505 = .ok (.aload_n 1, 1) := by decide +kernel
theorem dL_law_506 : decode cL_law 506 = .ok (.aload_n 0, 1) := by decide +kernel
theorem dL_law_507 : decode cL_law 507 = .ok (.iload_n 3, 1) := by decide +kernel
theorem dL_law_508 : decode cL_law 508 = .ok (.iconst 1, 1) := by decide +kernel
theorem dL_law_509 : decode cL_law 509 = .ok (.iadd, 1) := by decide +kernel
theorem dL_law_510 : decode cL_law 510 = .ok (.iaload, 1) := by decide +kernel
theorem dL_law_511 : decode cL_law 511 = .ok (.aload_n 0, 1) := by decide +kernel
theorem dL_law_512 : decode cL_law 512 = .ok (.iload_n 3, 1) := by decide +kernel
theorem dL_law_513 : decode cL_law 513 = .ok (.iconst 2, 1) := by decide +kernel
theorem dL_law_514 : decode cL_law 514 = .ok (.iadd, 1) := by decide +kernel
theorem dL_law_515 : decode cL_law 515 = .ok (.iaload, 1) := by decide +kernel
theorem dL_law_516 : decode cL_law 516 = .ok (.aload_n 0, 1) := by decide +kernel
theorem dL_law_517 : decode cL_law 517 = .ok (.iload_n 3, 1) := by decide +kernel
theorem dL_law_518 : decode cL_law 518 = .ok (.iconst 3, 1) := by decide +kernel
theorem dL_law_519 : decode cL_law 519 = .ok (.iadd, 1) := by decide +kernel
theorem dL_law_520 : decode cL_law 520 = .ok (.iaload, 1) := by decide +kernel
theorem dL_law_521 : decode cL_law 521 = .ok (.invokevirtual 76, 3) := by decide +kernel
theorem dL_law_524 : decode cL_law 524 = .ok (.aload_n 2, 1) := by decide +kernel
theorem dL_law_525 : decode cL_law 525 = .ok (.aload_n 0, 1) := by decide +kernel
theorem dL_law_526 : decode cL_law 526 = .ok (.iload_n 3, 1) := by decide +kernel
theorem dL_law_527 : decode cL_law 527 = .ok (.iconst 1, 1) := by decide +kernel
theorem dL_law_528 : decode cL_law 528 = .ok (.iadd, 1) := by decide +kernel
theorem dL_law_529 : decode cL_law 529 = .ok (.iaload, 1) := by decide +kernel
theorem dL_law_530 : decode cL_law 530 = .ok (.aload_n 0, 1) := by decide +kernel
theorem dL_law_531 : decode cL_law 531 = .ok (.iload_n 3, 1) := by decide +kernel
theorem dL_law_532 : decode cL_law 532 = .ok (.iconst 2, 1) := by decide +kernel
theorem dL_law_533 : decode cL_law 533 = .ok (.iadd, 1) := by decide +kernel
theorem dL_law_534 : decode cL_law 534 = .ok (.iaload, 1) := by decide +kernel
theorem dL_law_535 : decode cL_law 535 = .ok (.aload_n 0, 1) := by decide +kernel
theorem dL_law_536 : decode cL_law 536 = .ok (.iload_n 3, 1) := by decide +kernel
theorem dL_law_537 : decode cL_law 537 = .ok (.iconst 3, 1) := by decide +kernel
theorem dL_law_538 : decode cL_law 538 = .ok (.iadd, 1) := by decide +kernel
theorem dL_law_539 : decode cL_law 539 = .ok (.iaload, 1) := by decide +kernel
theorem dL_law_540 : decode cL_law 540 = .ok (.invokevirtual 80, 3) := by decide +kernel
theorem dL_law_543 : decode cL_law 543 = .ok (.if_icmp .eq 183, 3) := by decide +kernel
theorem dL_law_546 : decode cL_law 546 = .ok (.iconst 0, 1) := by decide +kernel
theorem dL_law_547 : decode cL_law 547 = .ok (.ireturn, 1) := by decide +kernel
theorem dL_law_548 : decode cL_law 548 = .ok (.aload_n 1, 1) := by decide +kernel
theorem dL_law_549 : decode cL_law 549 = .ok (.aload_n 0, 1) := by decide +kernel
theorem dL_law_550 : decode cL_law 550 = .ok (.iload_n 3, 1) := by decide +kernel
theorem dL_law_551 : decode cL_law 551 = .ok (.iconst 1, 1) := by decide +kernel
theorem dL_law_552 : decode cL_law 552 = .ok (.iadd, 1) := by decide +kernel
theorem dL_law_553 : decode cL_law 553 = .ok (.iaload, 1) := by decide +kernel
theorem dL_law_554 : decode cL_law 554 = .ok (.aload_n 0, 1) := by decide +kernel
theorem dL_law_555 : decode cL_law 555 = .ok (.iload_n 3, 1) := by decide +kernel
theorem dL_law_556 : decode cL_law 556 = .ok (.iconst 2, 1) := by decide +kernel
theorem dL_law_557 : decode cL_law 557 = .ok (.iadd, 1) := by decide +kernel
theorem dL_law_558 : decode cL_law 558 = .ok (.iaload, 1) := by decide +kernel
theorem dL_law_559 : decode cL_law 559 = .ok (.aload_n 0, 1) := by decide +kernel
theorem dL_law_560 : decode cL_law 560 = .ok (.iload_n 3, 1) := by decide +kernel
theorem dL_law_561 : decode cL_law 561 = .ok (.iconst 3, 1) := by decide +kernel
theorem dL_law_562 : decode cL_law 562 = .ok (.iadd, 1) := by decide +kernel
theorem dL_law_563 : decode cL_law 563 = .ok (.iaload, 1) := by decide +kernel
theorem dL_law_564 : decode cL_law 564 = .ok (.ifCond .eq 7, 3) := by decide +kernel
theorem dL_law_567 : decode cL_law 567 = .ok (.iconst 1, 1) := by decide +kernel
theorem dL_law_568 : decode cL_law 568 = .ok (.goto 4, 3) := by decide +kernel
theorem dL_law_571 : decode cL_law 571 = .ok (.iconst 0, 1) := by decide +kernel
theorem dL_law_572 : decode cL_law 572 = .ok (.invokevirtual 81, 3) := by decide +kernel
theorem dL_law_575 : decode cL_law 575 = .ok (.aload_n 2, 1) := by decide +kernel
theorem dL_law_576 : decode cL_law 576 = .ok (.aload_n 0, 1) := by decide +kernel
theorem dL_law_577 : decode cL_law 577 = .ok (.iload_n 3, 1) := by decide +kernel
theorem dL_law_578 : decode cL_law 578 = .ok (.iconst 1, 1) := by decide +kernel
theorem dL_law_579 : decode cL_law 579 = .ok (.iadd, 1) := by decide +kernel
theorem dL_law_580 : decode cL_law 580 = .ok (.iaload, 1) := by decide +kernel
theorem dL_law_581 : decode cL_law 581 = .ok (.aload_n 0, 1) := by decide +kernel
theorem dL_law_582 : decode cL_law 582 = .ok (.iload_n 3, 1) := by decide +kernel
theorem dL_law_583 : decode cL_law 583 = .ok (.iconst 2, 1) := by decide +kernel
theorem dL_law_584 : decode cL_law 584 = .ok (.iadd, 1) := by decide +kernel
theorem dL_law_585 : decode cL_law 585 = .ok (.iaload, 1) := by decide +kernel
theorem dL_law_586 : decode cL_law 586 = .ok (.aload_n 0, 1) := by decide +kernel
theorem dL_law_587 : decode cL_law 587 = .ok (.iload_n 3, 1) := by decide +kernel
theorem dL_law_588 : decode cL_law 588 = .ok (.iconst 3, 1) := by decide +kernel
theorem dL_law_589 : decode cL_law 589 = .ok (.iadd, 1) := by decide +kernel
theorem dL_law_590 : decode cL_law 590 = .ok (.iaload, 1) := by decide +kernel
theorem dL_law_591 : decode cL_law 591 = .ok (.ifCond .eq 7, 3) := by decide +kernel
theorem dL_law_594 : decode cL_law 594 = .ok (.iconst 1, 1) := by decide +kernel
theorem dL_law_595 : decode cL_law 595 = .ok (.goto 4, 3) := by decide +kernel
theorem dL_law_598 : decode cL_law 598 = .ok (.iconst 0, 1) := by decide +kernel
theorem dL_law_599 : decode cL_law 599 = .ok (.invokevirtual 85, 3) := by decide +kernel
theorem dL_law_602 : decode cL_law 602 = .ok (.if_icmp .eq 124, 3) := by decide +kernel
theorem dL_law_605 : decode cL_law 605 = .ok (.iconst 0, 1) := by decide +kernel
theorem dL_law_606 : decode cL_law 606 = .ok (.ireturn, 1) := by decide +kernel
theorem dL_law_607 : decode cL_law 607 = .ok (.aload_n 1, 1) := by decide +kernel
theorem dL_law_608 : decode cL_law 608 = .ok (.invokevirtual 86, 3) := by decide +kernel
theorem dL_law_611 : decode cL_law 611 = .ok (.aload_n 2, 1) := by decide +kernel
theorem dL_law_612 : decode cL_law 612 = .ok (.invokevirtual 89, 3) := by decide +kernel
theorem dL_law_615 : decode cL_law 615 = .ok (.if_icmp .eq 111, 3) := by decide +kernel
theorem dL_law_618 : decode cL_law 618 = .ok (.iconst 0, 1) := by decide +kernel
theorem dL_law_619 : decode cL_law 619 = .ok (.ireturn, 1) := by decide +kernel
theorem dL_law_620 : decode cL_law 620 = .ok (.aload_n 1, 1) := by decide +kernel
theorem dL_law_621 : decode cL_law 621 = .ok (.aload_n 0, 1) := by decide +kernel
theorem dL_law_622 : decode cL_law 622 = .ok (.iload_n 3, 1) := by decide +kernel
theorem dL_law_623 : decode cL_law 623 = .ok (.iconst 1, 1) := by decide +kernel
theorem dL_law_624 : decode cL_law 624 = .ok (.iadd, 1) := by decide +kernel
theorem dL_law_625 : decode cL_law 625 = .ok (.iaload, 1) := by decide +kernel
theorem dL_law_626 : decode cL_law 626 = .ok (.aload_n 0, 1) := by decide +kernel
theorem dL_law_627 : decode cL_law 627 = .ok (.iload_n 3, 1) := by decide +kernel
theorem dL_law_628 : decode cL_law 628 = .ok (.iconst 2, 1) := by decide +kernel
theorem dL_law_629 : decode cL_law 629 = .ok (.iadd, 1) := by decide +kernel
theorem dL_law_630 : decode cL_law 630 = .ok (.iaload, 1) := by decide +kernel
theorem dL_law_631 : decode cL_law 631 = .ok (.aload_n 0, 1) := by decide +kernel
theorem dL_law_632 : decode cL_law 632 = .ok (.iload_n 3, 1) := by decide +kernel
theorem dL_law_633 : decode cL_law 633 = .ok (.iconst 3, 1) := by decide +kernel
theorem dL_law_634 : decode cL_law 634 = .ok (.iadd, 1) := by decide +kernel
theorem dL_law_635 : decode cL_law 635 = .ok (.iaload, 1) := by decide +kernel
theorem dL_law_636 : decode cL_law 636 = .ok (.invokevirtual 90, 3) := by decide +kernel
theorem dL_law_639 : decode cL_law 639 = .ok (.aload_n 2, 1) := by decide +kernel
theorem dL_law_640 : decode cL_law 640 = .ok (.aload_n 0, 1) := by decide +kernel
theorem dL_law_641 : decode cL_law 641 = .ok (.iload_n 3, 1) := by decide +kernel
theorem dL_law_642 : decode cL_law 642 = .ok (.iconst 1, 1) := by decide +kernel
theorem dL_law_643 : decode cL_law 643 = .ok (.iadd, 1) := by decide +kernel
theorem dL_law_644 : decode cL_law 644 = .ok (.iaload, 1) := by decide +kernel
theorem dL_law_645 : decode cL_law 645 = .ok (.aload_n 0, 1) := by decide +kernel
theorem dL_law_646 : decode cL_law 646 = .ok (.iload_n 3, 1) := by decide +kernel
theorem dL_law_647 : decode cL_law 647 = .ok (.iconst 2, 1) := by decide +kernel
theorem dL_law_648 : decode cL_law 648 = .ok (.iadd, 1) := by decide +kernel
theorem dL_law_649 : decode cL_law 649 = .ok (.iaload, 1) := by decide +kernel
theorem dL_law_650 : decode cL_law 650 = .ok (.aload_n 0, 1) := by decide +kernel
theorem dL_law_651 : decode cL_law 651 = .ok (.iload_n 3, 1) := by decide +kernel
theorem dL_law_652 : decode cL_law 652 = .ok (.iconst 3, 1) := by decide +kernel
theorem dL_law_653 : decode cL_law 653 = .ok (.iadd, 1) := by decide +kernel
theorem dL_law_654 : decode cL_law 654 = .ok (.iaload, 1) := by decide +kernel
theorem dL_law_655 : decode cL_law 655 = .ok (.invokevirtual 93, 3) := by decide +kernel
theorem dL_law_658 : decode cL_law 658 = .ok (.if_icmp .eq 68, 3) := by decide +kernel
theorem dL_law_661 : decode cL_law 661 = .ok (.iconst 0, 1) := by decide +kernel
theorem dL_law_662 : decode cL_law 662 = .ok (.ireturn, 1) := by decide +kernel
theorem dL_law_663 : decode cL_law 663 = .ok (.aload_n 1, 1) := by decide +kernel
theorem dL_law_664 : decode cL_law 664 = .ok (.invokevirtual 94, 3) := by decide +kernel
theorem dL_law_667 : decode cL_law 667 = .ok (.aload_n 2, 1) := by decide +kernel
theorem dL_law_668 : decode cL_law 668 = .ok (.invokevirtual 97, 3) := by decide +kernel
theorem dL_law_671 : decode cL_law 671 = .ok (.if_icmp .eq 55, 3) := by decide +kernel
theorem dL_law_674 : decode cL_law 674 = .ok (.iconst 0, 1) := by decide +kernel
theorem dL_law_675 : decode cL_law 675 = .ok (.ireturn, 1) := by decide +kernel
theorem dL_law_676 : decode cL_law 676 = .ok (.aload_n 1, 1) := by decide +kernel
theorem dL_law_677 : decode cL_law 677 = .ok (.invokevirtual 98, 3) := by decide +kernel
theorem dL_law_680 : decode cL_law 680 = .ok (.aload_n 2, 1) := by decide +kernel
theorem dL_law_681 : decode cL_law 681 = .ok (.invokevirtual 101, 3) := by decide +kernel
theorem dL_law_684 : decode cL_law 684 = .ok (.if_icmp .eq 42, 3) := by decide +kernel
theorem dL_law_687 : decode cL_law 687 = .ok (.iconst 0, 1) := by decide +kernel
theorem dL_law_688 : decode cL_law 688 = .ok (.ireturn, 1) := by decide +kernel
theorem dL_law_689 : decode cL_law 689 = .ok (.aload_n 1, 1) := by decide +kernel
theorem dL_law_690 : decode cL_law 690 = .ok (.aload_n 0, 1) := by decide +kernel
theorem dL_law_691 : decode cL_law 691 = .ok (.iload_n 3, 1) := by decide +kernel
theorem dL_law_692 : decode cL_law 692 = .ok (.iconst 1, 1) := by decide +kernel
theorem dL_law_693 : decode cL_law 693 = .ok (.iadd, 1) := by decide +kernel
theorem dL_law_694 : decode cL_law 694 = .ok (.iaload, 1) := by decide +kernel
theorem dL_law_695 : decode cL_law 695 = .ok (.invokevirtual 102, 3) := by decide +kernel
theorem dL_law_698 : decode cL_law 698 = .ok (.aload_n 2, 1) := by decide +kernel
theorem dL_law_699 : decode cL_law 699 = .ok (.aload_n 0, 1) := by decide +kernel
theorem dL_law_700 : decode cL_law 700 = .ok (.iload_n 3, 1) := by decide +kernel
theorem dL_law_701 : decode cL_law 701 = .ok (.iconst 1, 1) := by decide +kernel
theorem dL_law_702 : decode cL_law 702 = .ok (.iadd, 1) := by decide +kernel
theorem dL_law_703 : decode cL_law 703 = .ok (.iaload, 1) := by decide +kernel
theorem dL_law_704 : decode cL_law 704 = .ok (.invokevirtual 105, 3) := by decide +kernel
theorem dL_law_707 : decode cL_law 707 = .ok (.if_icmp .eq 19, 3) := by decide +kernel
theorem dL_law_710 : decode cL_law 710 = .ok (.iconst 0, 1) := by decide +kernel
theorem dL_law_711 : decode cL_law 711 = .ok (.ireturn, 1) := by decide +kernel
theorem dL_law_712 : decode cL_law 712 = .ok (.aload_n 1, 1) := by decide +kernel
theorem dL_law_713 : decode cL_law 713 = .ok (.invokevirtual 106, 3) := by decide +kernel
theorem dL_law_716 : decode cL_law 716 = .ok (.aload_n 2, 1) := by decide +kernel
theorem dL_law_717 : decode cL_law 717 = .ok (.invokevirtual 110, 3) := by decide +kernel
theorem dL_law_720 : decode cL_law 720 = .ok (.lcmp, 1) := by decide +kernel
theorem dL_law_721 : decode cL_law 721 = .ok (.ifCond .eq 5, 3) := by decide +kernel
theorem dL_law_724 : decode cL_law 724 = .ok (.iconst 0, 1) := by decide +kernel
theorem dL_law_725 : decode cL_law 725 = .ok (.ireturn, 1) := by decide +kernel
theorem dL_law_726 : decode cL_law 726 = .ok (.iinc 3 4, 3) := by decide +kernel
theorem dL_law_729 : decode cL_law 729 = .ok (.goto (-711), 3) := by decide +kernel
theorem dL_law_732 : decode cL_law 732 = .ok (.iconst 1, 1) := by decide +kernel
theorem dL_law_733 : decode cL_law 733 = .ok (.ireturn, 1) := by decide +kernel
end
