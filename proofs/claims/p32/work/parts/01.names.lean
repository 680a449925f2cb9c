-- ===== PART A: goes FIRST, ahead of the names: the tables' words, and 'selects' of the private methods out of them =====
/-- a private method of a class that the tables say can be made, by its rows of tables_1 -/
def lw_okq (q : MethodName × Nat) : Prop := (q.1.cls ≠ "java/lang/invoke/MethodHandle" ∧ q.1.cls ≠ "java/lang/invoke/VarHandle") ∧ Cond.instantiable q.1.cls q.2 ∈ tables_1 ∧ Cond.privateMethod q.1 ∈ tables_1 ∧ Cond.instanceMethod q.1 ∈ tables_1
theorem lw_p0 : lw_okq (⟨"SoarHouse", "putFour", "(I)V"⟩, 16) := ⟨⟨by decide +kernel, by decide +kernel⟩, List.mem_of_getElem? (i := 25) (by decide +kernel), List.mem_of_getElem? (i := 493) (by decide +kernel), List.mem_of_getElem? (i := 494) (by decide +kernel)⟩
theorem lw_p1 : lw_okq (⟨"SoarHouse$PlanReader", "read", "(LSoarHouse$Plan;I)Z"⟩, 2) := ⟨⟨by decide +kernel, by decide +kernel⟩, List.mem_of_getElem? (i := 154) (by decide +kernel), List.mem_of_getElem? (i := 505) (by decide +kernel), List.mem_of_getElem? (i := 506) (by decide +kernel)⟩
theorem lw_p2 : lw_okq (⟨"SoarHouse$Plan", "clear", "()V"⟩, 15) := ⟨⟨by decide +kernel, by decide +kernel⟩, List.mem_of_getElem? (i := 74) (by decide +kernel), List.mem_of_getElem? (i := 509) (by decide +kernel), List.mem_of_getElem? (i := 510) (by decide +kernel)⟩
theorem lw_p3 : lw_okq (⟨"SoarHouse$Tokens", "open", "(I)V"⟩, 9) := ⟨⟨by decide +kernel, by decide +kernel⟩, List.mem_of_getElem? (i := 33) (by decide +kernel), List.mem_of_getElem? (i := 513) (by decide +kernel), List.mem_of_getElem? (i := 514) (by decide +kernel)⟩
theorem lw_p4 : lw_okq (⟨"SoarHouse$Tokens", "pass", "()V"⟩, 9) := ⟨⟨by decide +kernel, by decide +kernel⟩, List.mem_of_getElem? (i := 33) (by decide +kernel), List.mem_of_getElem? (i := 520) (by decide +kernel), List.mem_of_getElem? (i := 521) (by decide +kernel)⟩
theorem lw_p5 : lw_okq (⟨"SoarHouse$Tokens", "runOf", "(CC)I"⟩, 9) := ⟨⟨by decide +kernel, by decide +kernel⟩, List.mem_of_getElem? (i := 33) (by decide +kernel), List.mem_of_getElem? (i := 524) (by decide +kernel), List.mem_of_getElem? (i := 525) (by decide +kernel)⟩
theorem lw_p6 : lw_okq (⟨"SoarHouse$Tokens", "knownWord", "()I"⟩, 9) := ⟨⟨by decide +kernel, by decide +kernel⟩, List.mem_of_getElem? (i := 33) (by decide +kernel), List.mem_of_getElem? (i := 528) (by decide +kernel), List.mem_of_getElem? (i := 529) (by decide +kernel)⟩
theorem lw_p7 : lw_okq (⟨"SoarHouse$Tokens", "numberRead", "()I"⟩, 9) := ⟨⟨by decide +kernel, by decide +kernel⟩, List.mem_of_getElem? (i := 33) (by decide +kernel), List.mem_of_getElem? (i := 581) (by decide +kernel), List.mem_of_getElem? (i := 582) (by decide +kernel)⟩
theorem lw_p8 : lw_okq (⟨"SoarHouse$PlanReader", "readRow", "()Z"⟩, 2) := ⟨⟨by decide +kernel, by decide +kernel⟩, List.mem_of_getElem? (i := 154) (by decide +kernel), List.mem_of_getElem? (i := 643) (by decide +kernel), List.mem_of_getElem? (i := 644) (by decide +kernel)⟩
theorem lw_p9 : lw_okq (⟨"SoarHouse$Tokens", "takeNumber", "(II)I"⟩, 9) := ⟨⟨by decide +kernel, by decide +kernel⟩, List.mem_of_getElem? (i := 33) (by decide +kernel), List.mem_of_getElem? (i := 648) (by decide +kernel), List.mem_of_getElem? (i := 649) (by decide +kernel)⟩
theorem lw_p10 : lw_okq (⟨"SoarHouse$Tokens", "refuse", "(I)Z"⟩, 9) := ⟨⟨by decide +kernel, by decide +kernel⟩, List.mem_of_getElem? (i := 33) (by decide +kernel), List.mem_of_getElem? (i := 652) (by decide +kernel), List.mem_of_getElem? (i := 653) (by decide +kernel)⟩
theorem lw_p11 : lw_okq (⟨"SoarHouse$Tokens", "refuseTaken", "(I)Z"⟩, 9) := ⟨⟨by decide +kernel, by decide +kernel⟩, List.mem_of_getElem? (i := 33) (by decide +kernel), List.mem_of_getElem? (i := 656) (by decide +kernel), List.mem_of_getElem? (i := 657) (by decide +kernel)⟩
theorem lw_p12 : lw_okq (⟨"SoarHouse$Tokens", "wordLength", "()I"⟩, 9) := ⟨⟨by decide +kernel, by decide +kernel⟩, List.mem_of_getElem? (i := 33) (by decide +kernel), List.mem_of_getElem? (i := 661) (by decide +kernel), List.mem_of_getElem? (i := 662) (by decide +kernel)⟩
theorem lw_p13 : lw_okq (⟨"SoarHouse$Tokens", "letterOfWord", "(I)I"⟩, 9) := ⟨⟨by decide +kernel, by decide +kernel⟩, List.mem_of_getElem? (i := 33) (by decide +kernel), List.mem_of_getElem? (i := 665) (by decide +kernel), List.mem_of_getElem? (i := 666) (by decide +kernel)⟩
theorem lw_p14 : lw_okq (⟨"SoarHouse$PlanReader", "readLift", "()Z"⟩, 2) := ⟨⟨by decide +kernel, by decide +kernel⟩, List.mem_of_getElem? (i := 154) (by decide +kernel), List.mem_of_getElem? (i := 670) (by decide +kernel), List.mem_of_getElem? (i := 671) (by decide +kernel)⟩
theorem lw_p15 : lw_okq (⟨"SoarHouse$PlanReader", "readWind", "()Z"⟩, 2) := ⟨⟨by decide +kernel, by decide +kernel⟩, List.mem_of_getElem? (i := 154) (by decide +kernel), List.mem_of_getElem? (i := 674) (by decide +kernel), List.mem_of_getElem? (i := 675) (by decide +kernel)⟩
def lw_privs_1 : List (MethodName × Nat) := [(⟨"SoarHouse", "putFour", "(I)V"⟩, 16), (⟨"SoarHouse$PlanReader", "read", "(LSoarHouse$Plan;I)Z"⟩, 2), (⟨"SoarHouse$Plan", "clear", "()V"⟩, 15), (⟨"SoarHouse$Tokens", "open", "(I)V"⟩, 9), (⟨"SoarHouse$Tokens", "pass", "()V"⟩, 9), (⟨"SoarHouse$Tokens", "runOf", "(CC)I"⟩, 9), (⟨"SoarHouse$Tokens", "knownWord", "()I"⟩, 9), (⟨"SoarHouse$Tokens", "numberRead", "()I"⟩, 9), (⟨"SoarHouse$PlanReader", "readRow", "()Z"⟩, 2), (⟨"SoarHouse$Tokens", "takeNumber", "(II)I"⟩, 9), (⟨"SoarHouse$Tokens", "refuse", "(I)Z"⟩, 9), (⟨"SoarHouse$Tokens", "refuseTaken", "(I)Z"⟩, 9), (⟨"SoarHouse$Tokens", "wordLength", "()I"⟩, 9), (⟨"SoarHouse$Tokens", "letterOfWord", "(I)I"⟩, 9), (⟨"SoarHouse$PlanReader", "readLift", "()Z"⟩, 2), (⟨"SoarHouse$PlanReader", "readWind", "()Z"⟩, 2)]
theorem lw_r1 : ∀ q ∈ lw_privs_1, lw_okq q := List.forall_mem_cons.mpr ⟨lw_p0, List.forall_mem_cons.mpr ⟨lw_p1, List.forall_mem_cons.mpr ⟨lw_p2, List.forall_mem_cons.mpr ⟨lw_p3, List.forall_mem_cons.mpr ⟨lw_p4, List.forall_mem_cons.mpr ⟨lw_p5, List.forall_mem_cons.mpr ⟨lw_p6, List.forall_mem_cons.mpr ⟨lw_p7, List.forall_mem_cons.mpr ⟨lw_p8, List.forall_mem_cons.mpr ⟨lw_p9, List.forall_mem_cons.mpr ⟨lw_p10, List.forall_mem_cons.mpr ⟨lw_p11, List.forall_mem_cons.mpr ⟨lw_p12, List.forall_mem_cons.mpr ⟨lw_p13, List.forall_mem_cons.mpr ⟨lw_p14, List.forall_mem_cons.mpr ⟨lw_p15, fun _ h => absurd h List.not_mem_nil⟩⟩⟩⟩⟩⟩⟩⟩⟩⟩⟩⟩⟩⟩⟩⟩
theorem lw_p16 : lw_okq (⟨"SoarHouse$PlanReader", "takeHour", "([I)I"⟩, 2) := ⟨⟨by decide +kernel, by decide +kernel⟩, List.mem_of_getElem? (i := 154) (by decide +kernel), List.mem_of_getElem? (i := 678) (by decide +kernel), List.mem_of_getElem? (i := 679) (by decide +kernel)⟩
theorem lw_p17 : lw_okq (⟨"SoarHouse$PlanReader", "windLetter", "()I"⟩, 2) := ⟨⟨by decide +kernel, by decide +kernel⟩, List.mem_of_getElem? (i := 154) (by decide +kernel), List.mem_of_getElem? (i := 682) (by decide +kernel), List.mem_of_getElem? (i := 683) (by decide +kernel)⟩
theorem lw_p18 : lw_okq (⟨"SoarHouse$PlanReader", "readTop", "()Z"⟩, 2) := ⟨⟨by decide +kernel, by decide +kernel⟩, List.mem_of_getElem? (i := 154) (by decide +kernel), List.mem_of_getElem? (i := 686) (by decide +kernel), List.mem_of_getElem? (i := 687) (by decide +kernel)⟩
theorem lw_p19 : lw_okq (⟨"SoarHouse$PlanReader", "readWall", "()Z"⟩, 2) := ⟨⟨by decide +kernel, by decide +kernel⟩, List.mem_of_getElem? (i := 154) (by decide +kernel), List.mem_of_getElem? (i := 690) (by decide +kernel), List.mem_of_getElem? (i := 691) (by decide +kernel)⟩
theorem lw_p20 : lw_okq (⟨"SoarHouse$PlanReader", "takeCell", "()I"⟩, 2) := ⟨⟨by decide +kernel, by decide +kernel⟩, List.mem_of_getElem? (i := 154) (by decide +kernel), List.mem_of_getElem? (i := 694) (by decide +kernel), List.mem_of_getElem? (i := 695) (by decide +kernel)⟩
theorem lw_p21 : lw_okq (⟨"SoarHouse$PlanReader", "takeBehind", "(III)I"⟩, 2) := ⟨⟨by decide +kernel, by decide +kernel⟩, List.mem_of_getElem? (i := 154) (by decide +kernel), List.mem_of_getElem? (i := 698) (by decide +kernel), List.mem_of_getElem? (i := 699) (by decide +kernel)⟩
theorem lw_p22 : lw_okq (⟨"SoarHouse$Tokens", "takeWord", "(I)Z"⟩, 9) := ⟨⟨by decide +kernel, by decide +kernel⟩, List.mem_of_getElem? (i := 33) (by decide +kernel), List.mem_of_getElem? (i := 702) (by decide +kernel), List.mem_of_getElem? (i := 703) (by decide +kernel)⟩
theorem lw_p23 : lw_okq (⟨"SoarHouse$Tokens", "isWord", "(I)Z"⟩, 9) := ⟨⟨by decide +kernel, by decide +kernel⟩, List.mem_of_getElem? (i := 33) (by decide +kernel), List.mem_of_getElem? (i := 706) (by decide +kernel), List.mem_of_getElem? (i := 707) (by decide +kernel)⟩
theorem lw_p24 : lw_okq (⟨"SoarHouse$PlanReader", "readField", "()Z"⟩, 2) := ⟨⟨by decide +kernel, by decide +kernel⟩, List.mem_of_getElem? (i := 154) (by decide +kernel), List.mem_of_getElem? (i := 710) (by decide +kernel), List.mem_of_getElem? (i := 711) (by decide +kernel)⟩
theorem lw_p25 : lw_okq (⟨"SoarHouse$PlanReader", "readRoad", "()Z"⟩, 2) := ⟨⟨by decide +kernel, by decide +kernel⟩, List.mem_of_getElem? (i := 154) (by decide +kernel), List.mem_of_getElem? (i := 714) (by decide +kernel), List.mem_of_getElem? (i := 715) (by decide +kernel)⟩
theorem lw_p26 : lw_okq (⟨"SoarHouse$PlanReader", "readGlider", "()Z"⟩, 2) := ⟨⟨by decide +kernel, by decide +kernel⟩, List.mem_of_getElem? (i := 154) (by decide +kernel), List.mem_of_getElem? (i := 718) (by decide +kernel), List.mem_of_getElem? (i := 719) (by decide +kernel)⟩
theorem lw_p27 : lw_okq (⟨"SoarHouse$Tokens", "packedWord", "()J"⟩, 9) := ⟨⟨by decide +kernel, by decide +kernel⟩, List.mem_of_getElem? (i := 33) (by decide +kernel), List.mem_of_getElem? (i := 722) (by decide +kernel), List.mem_of_getElem? (i := 723) (by decide +kernel)⟩
theorem lw_p28 : lw_okq (⟨"SoarHouse$Plan", "hasName", "(J)Z"⟩, 15) := ⟨⟨by decide +kernel, by decide +kernel⟩, List.mem_of_getElem? (i := 74) (by decide +kernel), List.mem_of_getElem? (i := 727) (by decide +kernel), List.mem_of_getElem? (i := 728) (by decide +kernel)⟩
theorem lw_p29 : lw_okq (⟨"SoarHouse$PlanReader", "readSinks", "(I)Z"⟩, 2) := ⟨⟨by decide +kernel, by decide +kernel⟩, List.mem_of_getElem? (i := 154) (by decide +kernel), List.mem_of_getElem? (i := 731) (by decide +kernel), List.mem_of_getElem? (i := 732) (by decide +kernel)⟩
theorem lw_p30 : lw_okq (⟨"SoarHouse$Tokens", "takeSign", "(C)Z"⟩, 9) := ⟨⟨by decide +kernel, by decide +kernel⟩, List.mem_of_getElem? (i := 33) (by decide +kernel), List.mem_of_getElem? (i := 735) (by decide +kernel), List.mem_of_getElem? (i := 736) (by decide +kernel)⟩
theorem lw_p31 : lw_okq (⟨"SoarHouse$Tokens", "isSign", "(C)Z"⟩, 9) := ⟨⟨by decide +kernel, by decide +kernel⟩, List.mem_of_getElem? (i := 33) (by decide +kernel), List.mem_of_getElem? (i := 739) (by decide +kernel), List.mem_of_getElem? (i := 740) (by decide +kernel)⟩
def lw_privs_2 : List (MethodName × Nat) := [(⟨"SoarHouse$PlanReader", "takeHour", "([I)I"⟩, 2), (⟨"SoarHouse$PlanReader", "windLetter", "()I"⟩, 2), (⟨"SoarHouse$PlanReader", "readTop", "()Z"⟩, 2), (⟨"SoarHouse$PlanReader", "readWall", "()Z"⟩, 2), (⟨"SoarHouse$PlanReader", "takeCell", "()I"⟩, 2), (⟨"SoarHouse$PlanReader", "takeBehind", "(III)I"⟩, 2), (⟨"SoarHouse$Tokens", "takeWord", "(I)Z"⟩, 9), (⟨"SoarHouse$Tokens", "isWord", "(I)Z"⟩, 9), (⟨"SoarHouse$PlanReader", "readField", "()Z"⟩, 2), (⟨"SoarHouse$PlanReader", "readRoad", "()Z"⟩, 2), (⟨"SoarHouse$PlanReader", "readGlider", "()Z"⟩, 2), (⟨"SoarHouse$Tokens", "packedWord", "()J"⟩, 9), (⟨"SoarHouse$Plan", "hasName", "(J)Z"⟩, 15), (⟨"SoarHouse$PlanReader", "readSinks", "(I)Z"⟩, 2), (⟨"SoarHouse$Tokens", "takeSign", "(C)Z"⟩, 9), (⟨"SoarHouse$Tokens", "isSign", "(C)Z"⟩, 9)]
theorem lw_r2 : ∀ q ∈ lw_privs_2, lw_okq q := List.forall_mem_cons.mpr ⟨lw_p16, List.forall_mem_cons.mpr ⟨lw_p17, List.forall_mem_cons.mpr ⟨lw_p18, List.forall_mem_cons.mpr ⟨lw_p19, List.forall_mem_cons.mpr ⟨lw_p20, List.forall_mem_cons.mpr ⟨lw_p21, List.forall_mem_cons.mpr ⟨lw_p22, List.forall_mem_cons.mpr ⟨lw_p23, List.forall_mem_cons.mpr ⟨lw_p24, List.forall_mem_cons.mpr ⟨lw_p25, List.forall_mem_cons.mpr ⟨lw_p26, List.forall_mem_cons.mpr ⟨lw_p27, List.forall_mem_cons.mpr ⟨lw_p28, List.forall_mem_cons.mpr ⟨lw_p29, List.forall_mem_cons.mpr ⟨lw_p30, List.forall_mem_cons.mpr ⟨lw_p31, fun _ h => absurd h List.not_mem_nil⟩⟩⟩⟩⟩⟩⟩⟩⟩⟩⟩⟩⟩⟩⟩⟩
theorem lw_p32 : lw_okq (⟨"SoarHouse", "keepFault", "()V"⟩, 16) := ⟨⟨by decide +kernel, by decide +kernel⟩, List.mem_of_getElem? (i := 25) (by decide +kernel), List.mem_of_getElem? (i := 743) (by decide +kernel), List.mem_of_getElem? (i := 744) (by decide +kernel)⟩
theorem lw_p33 : lw_okq (⟨"SoarHouse$Traces", "clear", "()V"⟩, 10) := ⟨⟨by decide +kernel, by decide +kernel⟩, List.mem_of_getElem? (i := 321) (by decide +kernel), List.mem_of_getElem? (i := 747) (by decide +kernel), List.mem_of_getElem? (i := 748) (by decide +kernel)⟩
theorem lw_p34 : lw_okq (⟨"SoarHouse$Trailers", "clear", "()I"⟩, 7) := ⟨⟨by decide +kernel, by decide +kernel⟩, List.mem_of_getElem? (i := 409) (by decide +kernel), List.mem_of_getElem? (i := 751) (by decide +kernel), List.mem_of_getElem? (i := 752) (by decide +kernel)⟩
theorem lw_p35 : lw_okq (⟨"SoarHouse$Flight", "forget", "()V"⟩, 17) := ⟨⟨by decide +kernel, by decide +kernel⟩, List.mem_of_getElem? (i := 216) (by decide +kernel), List.mem_of_getElem? (i := 755) (by decide +kernel), List.mem_of_getElem? (i := 756) (by decide +kernel)⟩
theorem lw_p36 : lw_okq (⟨"SoarHouse$Law", "read", "(I)Z"⟩, 7) := ⟨⟨by decide +kernel, by decide +kernel⟩, List.mem_of_getElem? (i := 167) (by decide +kernel), List.mem_of_getElem? (i := 764) (by decide +kernel), List.mem_of_getElem? (i := 765) (by decide +kernel)⟩
theorem lw_p37 : lw_okq (⟨"SoarHouse$Law", "readEither", "(I)Z"⟩, 7) := ⟨⟨by decide +kernel, by decide +kernel⟩, List.mem_of_getElem? (i := 167) (by decide +kernel), List.mem_of_getElem? (i := 770) (by decide +kernel), List.mem_of_getElem? (i := 771) (by decide +kernel)⟩
theorem lw_p38 : lw_okq (⟨"SoarHouse$Law", "readBoth", "(I)Z"⟩, 7) := ⟨⟨by decide +kernel, by decide +kernel⟩, List.mem_of_getElem? (i := 167) (by decide +kernel), List.mem_of_getElem? (i := 774) (by decide +kernel), List.mem_of_getElem? (i := 775) (by decide +kernel)⟩
theorem lw_p39 : lw_okq (⟨"SoarHouse$Law", "readOne", "(I)Z"⟩, 7) := ⟨⟨by decide +kernel, by decide +kernel⟩, List.mem_of_getElem? (i := 167) (by decide +kernel), List.mem_of_getElem? (i := 778) (by decide +kernel), List.mem_of_getElem? (i := 779) (by decide +kernel)⟩
theorem lw_p40 : lw_okq (⟨"SoarHouse$Law", "put", "(I)V"⟩, 7) := ⟨⟨by decide +kernel, by decide +kernel⟩, List.mem_of_getElem? (i := 167) (by decide +kernel), List.mem_of_getElem? (i := 785) (by decide +kernel), List.mem_of_getElem? (i := 786) (by decide +kernel)⟩
theorem lw_p41 : lw_okq (⟨"SoarHouse$Law", "readSum", "(I)Z"⟩, 7) := ⟨⟨by decide +kernel, by decide +kernel⟩, List.mem_of_getElem? (i := 167) (by decide +kernel), List.mem_of_getElem? (i := 789) (by decide +kernel), List.mem_of_getElem? (i := 790) (by decide +kernel)⟩
theorem lw_p42 : lw_okq (⟨"SoarHouse$Law", "readTerm", "(I)Z"⟩, 7) := ⟨⟨by decide +kernel, by decide +kernel⟩, List.mem_of_getElem? (i := 167) (by decide +kernel), List.mem_of_getElem? (i := 793) (by decide +kernel), List.mem_of_getElem? (i := 794) (by decide +kernel)⟩
theorem lw_p43 : lw_okq (⟨"SoarHouse$Law", "readUnit", "(I)Z"⟩, 7) := ⟨⟨by decide +kernel, by decide +kernel⟩, List.mem_of_getElem? (i := 167) (by decide +kernel), List.mem_of_getElem? (i := 797) (by decide +kernel), List.mem_of_getElem? (i := 798) (by decide +kernel)⟩
theorem lw_p44 : lw_okq (⟨"SoarHouse$Law", "asked", "()I"⟩, 7) := ⟨⟨by decide +kernel, by decide +kernel⟩, List.mem_of_getElem? (i := 167) (by decide +kernel), List.mem_of_getElem? (i := 803) (by decide +kernel), List.mem_of_getElem? (i := 804) (by decide +kernel)⟩
theorem lw_p45 : lw_okq (⟨"SoarHouse$Plan", "liftOf", "(II)I"⟩, 15) := ⟨⟨by decide +kernel, by decide +kernel⟩, List.mem_of_getElem? (i := 74) (by decide +kernel), List.mem_of_getElem? (i := 821) (by decide +kernel), List.mem_of_getElem? (i := 822) (by decide +kernel)⟩
theorem lw_p46 : lw_okq (⟨"SoarHouse$Plan", "windIn", "(I)I"⟩, 15) := ⟨⟨by decide +kernel, by decide +kernel⟩, List.mem_of_getElem? (i := 74) (by decide +kernel), List.mem_of_getElem? (i := 829) (by decide +kernel), List.mem_of_getElem? (i := 830) (by decide +kernel)⟩
theorem lw_p47 : lw_okq (⟨"SoarHouse$Plan", "topIn", "(I)I"⟩, 15) := ⟨⟨by decide +kernel, by decide +kernel⟩, List.mem_of_getElem? (i := 74) (by decide +kernel), List.mem_of_getElem? (i := 837) (by decide +kernel), List.mem_of_getElem? (i := 838) (by decide +kernel)⟩
def lw_privs_3 : List (MethodName × Nat) := [(⟨"SoarHouse", "keepFault", "()V"⟩, 16), (⟨"SoarHouse$Traces", "clear", "()V"⟩, 10), (⟨"SoarHouse$Trailers", "clear", "()I"⟩, 7), (⟨"SoarHouse$Flight", "forget", "()V"⟩, 17), (⟨"SoarHouse$Law", "read", "(I)Z"⟩, 7), (⟨"SoarHouse$Law", "readEither", "(I)Z"⟩, 7), (⟨"SoarHouse$Law", "readBoth", "(I)Z"⟩, 7), (⟨"SoarHouse$Law", "readOne", "(I)Z"⟩, 7), (⟨"SoarHouse$Law", "put", "(I)V"⟩, 7), (⟨"SoarHouse$Law", "readSum", "(I)Z"⟩, 7), (⟨"SoarHouse$Law", "readTerm", "(I)Z"⟩, 7), (⟨"SoarHouse$Law", "readUnit", "(I)Z"⟩, 7), (⟨"SoarHouse$Law", "asked", "()I"⟩, 7), (⟨"SoarHouse$Plan", "liftOf", "(II)I"⟩, 15), (⟨"SoarHouse$Plan", "windIn", "(I)I"⟩, 15), (⟨"SoarHouse$Plan", "topIn", "(I)I"⟩, 15)]
theorem lw_r3 : ∀ q ∈ lw_privs_3, lw_okq q := List.forall_mem_cons.mpr ⟨lw_p32, List.forall_mem_cons.mpr ⟨lw_p33, List.forall_mem_cons.mpr ⟨lw_p34, List.forall_mem_cons.mpr ⟨lw_p35, List.forall_mem_cons.mpr ⟨lw_p36, List.forall_mem_cons.mpr ⟨lw_p37, List.forall_mem_cons.mpr ⟨lw_p38, List.forall_mem_cons.mpr ⟨lw_p39, List.forall_mem_cons.mpr ⟨lw_p40, List.forall_mem_cons.mpr ⟨lw_p41, List.forall_mem_cons.mpr ⟨lw_p42, List.forall_mem_cons.mpr ⟨lw_p43, List.forall_mem_cons.mpr ⟨lw_p44, List.forall_mem_cons.mpr ⟨lw_p45, List.forall_mem_cons.mpr ⟨lw_p46, List.forall_mem_cons.mpr ⟨lw_p47, fun _ h => absurd h List.not_mem_nil⟩⟩⟩⟩⟩⟩⟩⟩⟩⟩⟩⟩⟩⟩⟩⟩
theorem lw_p48 : lw_okq (⟨"SoarHouse$Plan", "ceilingOf", "(II)I"⟩, 15) := ⟨⟨by decide +kernel, by decide +kernel⟩, List.mem_of_getElem? (i := 74) (by decide +kernel), List.mem_of_getElem? (i := 851) (by decide +kernel), List.mem_of_getElem? (i := 852) (by decide +kernel)⟩
theorem lw_p49 : lw_okq (⟨"SoarHouse$Plan", "hasGlider", "(I)Z"⟩, 15) := ⟨⟨by decide +kernel, by decide +kernel⟩, List.mem_of_getElem? (i := 74) (by decide +kernel), List.mem_of_getElem? (i := 860) (by decide +kernel), List.mem_of_getElem? (i := 861) (by decide +kernel)⟩
theorem lw_p50 : lw_okq (⟨"SoarHouse$Plan", "moved", "(IIIII)I"⟩, 15) := ⟨⟨by decide +kernel, by decide +kernel⟩, List.mem_of_getElem? (i := 74) (by decide +kernel), List.mem_of_getElem? (i := 864) (by decide +kernel), List.mem_of_getElem? (i := 865) (by decide +kernel)⟩
theorem lw_p51 : lw_okq (⟨"SoarHouse$Plan", "gainOf", "(III)I"⟩, 15) := ⟨⟨by decide +kernel, by decide +kernel⟩, List.mem_of_getElem? (i := 74) (by decide +kernel), List.mem_of_getElem? (i := 868) (by decide +kernel), List.mem_of_getElem? (i := 869) (by decide +kernel)⟩
theorem lw_p52 : lw_okq (⟨"SoarHouse$Plan", "lossOf", "(IIII)I"⟩, 15) := ⟨⟨by decide +kernel, by decide +kernel⟩, List.mem_of_getElem? (i := 74) (by decide +kernel), List.mem_of_getElem? (i := 879) (by decide +kernel), List.mem_of_getElem? (i := 880) (by decide +kernel)⟩
theorem lw_p53 : lw_okq (⟨"SoarHouse$Course", "take", "(IIII)Z"⟩, 3) := ⟨⟨by decide +kernel, by decide +kernel⟩, List.mem_of_getElem? (i := 196) (by decide +kernel), List.mem_of_getElem? (i := 891) (by decide +kernel), List.mem_of_getElem? (i := 892) (by decide +kernel)⟩
theorem lw_p54 : lw_okq (⟨"SoarHouse$Course", "addPoint", "(I)V"⟩, 3) := ⟨⟨by decide +kernel, by decide +kernel⟩, List.mem_of_getElem? (i := 196) (by decide +kernel), List.mem_of_getElem? (i := 899) (by decide +kernel), List.mem_of_getElem? (i := 900) (by decide +kernel)⟩
theorem lw_p55 : lw_okq (⟨"SoarHouse", "fly", "(IIIII)Z"⟩, 16) := ⟨⟨by decide +kernel, by decide +kernel⟩, List.mem_of_getElem? (i := 25) (by decide +kernel), List.mem_of_getElem? (i := 907) (by decide +kernel), List.mem_of_getElem? (i := 908) (by decide +kernel)⟩
theorem lw_p56 : lw_okq (⟨"SoarHouse", "canBegin", "(IIII)Z"⟩, 16) := ⟨⟨by decide +kernel, by decide +kernel⟩, List.mem_of_getElem? (i := 25) (by decide +kernel), List.mem_of_getElem? (i := 911) (by decide +kernel), List.mem_of_getElem? (i := 912) (by decide +kernel)⟩
theorem lw_p57 : lw_okq (⟨"SoarHouse$Flight", "knows", "(IIIII)Z"⟩, 17) := ⟨⟨by decide +kernel, by decide +kernel⟩, List.mem_of_getElem? (i := 216) (by decide +kernel), List.mem_of_getElem? (i := 915) (by decide +kernel), List.mem_of_getElem? (i := 916) (by decide +kernel)⟩
theorem lw_p58 : lw_okq (⟨"SoarHouse$Flight", "ask", "(IIIII)V"⟩, 17) := ⟨⟨by decide +kernel, by decide +kernel⟩, List.mem_of_getElem? (i := 216) (by decide +kernel), List.mem_of_getElem? (i := 919) (by decide +kernel), List.mem_of_getElem? (i := 920) (by decide +kernel)⟩
theorem lw_p59 : lw_okq (⟨"SoarHouse$Flight", "search", "(LSoarHouse$Plan;LSoarHouse$Course;)V"⟩, 17) := ⟨⟨by decide +kernel, by decide +kernel⟩, List.mem_of_getElem? (i := 216) (by decide +kernel), List.mem_of_getElem? (i := 923) (by decide +kernel), List.mem_of_getElem? (i := 924) (by decide +kernel)⟩
theorem lw_p60 : lw_okq (⟨"SoarHouse$Flight", "begin", "(LSoarHouse$Plan;LSoarHouse$Course;)V"⟩, 17) := ⟨⟨by decide +kernel, by decide +kernel⟩, List.mem_of_getElem? (i := 216) (by decide +kernel), List.mem_of_getElem? (i := 927) (by decide +kernel), List.mem_of_getElem? (i := 928) (by decide +kernel)⟩
theorem lw_p61 : lw_okq (⟨"SoarHouse$Course", "roundedIn", "(II)I"⟩, 3) := ⟨⟨by decide +kernel, by decide +kernel⟩, List.mem_of_getElem? (i := 196) (by decide +kernel), List.mem_of_getElem? (i := 934) (by decide +kernel), List.mem_of_getElem? (i := 935) (by decide +kernel)⟩
theorem lw_p62 : lw_okq (⟨"SoarHouse$Flight", "spreadAll", "(IZ)V"⟩, 17) := ⟨⟨by decide +kernel, by decide +kernel⟩, List.mem_of_getElem? (i := 216) (by decide +kernel), List.mem_of_getElem? (i := 941) (by decide +kernel), List.mem_of_getElem? (i := 942) (by decide +kernel)⟩
theorem lw_p63 : lw_okq (⟨"SoarHouse$Flight", "readHour", "(I)V"⟩, 17) := ⟨⟨by decide +kernel, by decide +kernel⟩, List.mem_of_getElem? (i := 216) (by decide +kernel), List.mem_of_getElem? (i := 945) (by decide +kernel), List.mem_of_getElem? (i := 946) (by decide +kernel)⟩
def lw_privs_4 : List (MethodName × Nat) := [(⟨"SoarHouse$Plan", "ceilingOf", "(II)I"⟩, 15), (⟨"SoarHouse$Plan", "hasGlider", "(I)Z"⟩, 15), (⟨"SoarHouse$Plan", "moved", "(IIIII)I"⟩, 15), (⟨"SoarHouse$Plan", "gainOf", "(III)I"⟩, 15), (⟨"SoarHouse$Plan", "lossOf", "(IIII)I"⟩, 15), (⟨"SoarHouse$Course", "take", "(IIII)Z"⟩, 3), (⟨"SoarHouse$Course", "addPoint", "(I)V"⟩, 3), (⟨"SoarHouse", "fly", "(IIIII)Z"⟩, 16), (⟨"SoarHouse", "canBegin", "(IIII)Z"⟩, 16), (⟨"SoarHouse$Flight", "knows", "(IIIII)Z"⟩, 17), (⟨"SoarHouse$Flight", "ask", "(IIIII)V"⟩, 17), (⟨"SoarHouse$Flight", "search", "(LSoarHouse$Plan;LSoarHouse$Course;)V"⟩, 17), (⟨"SoarHouse$Flight", "begin", "(LSoarHouse$Plan;LSoarHouse$Course;)V"⟩, 17), (⟨"SoarHouse$Course", "roundedIn", "(II)I"⟩, 3), (⟨"SoarHouse$Flight", "spreadAll", "(IZ)V"⟩, 17), (⟨"SoarHouse$Flight", "readHour", "(I)V"⟩, 17)]
theorem lw_r4 : ∀ q ∈ lw_privs_4, lw_okq q := List.forall_mem_cons.mpr ⟨lw_p48, List.forall_mem_cons.mpr ⟨lw_p49, List.forall_mem_cons.mpr ⟨lw_p50, List.forall_mem_cons.mpr ⟨lw_p51, List.forall_mem_cons.mpr ⟨lw_p52, List.forall_mem_cons.mpr ⟨lw_p53, List.forall_mem_cons.mpr ⟨lw_p54, List.forall_mem_cons.mpr ⟨lw_p55, List.forall_mem_cons.mpr ⟨lw_p56, List.forall_mem_cons.mpr ⟨lw_p57, List.forall_mem_cons.mpr ⟨lw_p58, List.forall_mem_cons.mpr ⟨lw_p59, List.forall_mem_cons.mpr ⟨lw_p60, List.forall_mem_cons.mpr ⟨lw_p61, List.forall_mem_cons.mpr ⟨lw_p62, List.forall_mem_cons.mpr ⟨lw_p63, fun _ h => absurd h List.not_mem_nil⟩⟩⟩⟩⟩⟩⟩⟩⟩⟩⟩⟩⟩⟩⟩⟩
theorem lw_p64 : lw_okq (⟨"SoarHouse$Course", "turns", "()I"⟩, 3) := ⟨⟨by decide +kernel, by decide +kernel⟩, List.mem_of_getElem? (i := 196) (by decide +kernel), List.mem_of_getElem? (i := 952) (by decide +kernel), List.mem_of_getElem? (i := 953) (by decide +kernel)⟩
theorem lw_p65 : lw_okq (⟨"SoarHouse$Flight", "spread", "(IIIZ)V"⟩, 17) := ⟨⟨by decide +kernel, by decide +kernel⟩, List.mem_of_getElem? (i := 216) (by decide +kernel), List.mem_of_getElem? (i := 962) (by decide +kernel), List.mem_of_getElem? (i := 963) (by decide +kernel)⟩
theorem lw_p66 : lw_okq (⟨"SoarHouse$Flight", "circled", "(JI)J"⟩, 17) := ⟨⟨by decide +kernel, by decide +kernel⟩, List.mem_of_getElem? (i := 216) (by decide +kernel), List.mem_of_getElem? (i := 967) (by decide +kernel), List.mem_of_getElem? (i := 968) (by decide +kernel)⟩
theorem lw_p67 : lw_okq (⟨"SoarHouse$Flight", "isFlown", "(I)Z"⟩, 17) := ⟨⟨by decide +kernel, by decide +kernel⟩, List.mem_of_getElem? (i := 216) (by decide +kernel), List.mem_of_getElem? (i := 973) (by decide +kernel), List.mem_of_getElem? (i := 974) (by decide +kernel)⟩
theorem lw_p68 : lw_okq (⟨"SoarHouse$Flight", "finishing", "(I)J"⟩, 17) := ⟨⟨by decide +kernel, by decide +kernel⟩, List.mem_of_getElem? (i := 216) (by decide +kernel), List.mem_of_getElem? (i := 977) (by decide +kernel), List.mem_of_getElem? (i := 978) (by decide +kernel)⟩
theorem lw_p69 : lw_okq (⟨"SoarHouse$Course", "finish", "()I"⟩, 3) := ⟨⟨by decide +kernel, by decide +kernel⟩, List.mem_of_getElem? (i := 196) (by decide +kernel), List.mem_of_getElem? (i := 981) (by decide +kernel), List.mem_of_getElem? (i := 982) (by decide +kernel)⟩
theorem lw_p70 : lw_okq (⟨"SoarHouse$Flight", "keepWhatLeadsThere", "()V"⟩, 17) := ⟨⟨by decide +kernel, by decide +kernel⟩, List.mem_of_getElem? (i := 216) (by decide +kernel), List.mem_of_getElem? (i := 986) (by decide +kernel), List.mem_of_getElem? (i := 987) (by decide +kernel)⟩
theorem lw_p71 : lw_okq (⟨"SoarHouse$Flight", "leading", "(III)J"⟩, 17) := ⟨⟨by decide +kernel, by decide +kernel⟩, List.mem_of_getElem? (i := 216) (by decide +kernel), List.mem_of_getElem? (i := 990) (by decide +kernel), List.mem_of_getElem? (i := 991) (by decide +kernel)⟩
theorem lw_p72 : lw_okq (⟨"SoarHouse$Flight", "uncircled", "(JI)J"⟩, 17) := ⟨⟨by decide +kernel, by decide +kernel⟩, List.mem_of_getElem? (i := 216) (by decide +kernel), List.mem_of_getElem? (i := 994) (by decide +kernel), List.mem_of_getElem? (i := 995) (by decide +kernel)⟩
theorem lw_p73 : lw_okq (⟨"SoarHouse$Flight", "walk", "()V"⟩, 17) := ⟨⟨by decide +kernel, by decide +kernel⟩, List.mem_of_getElem? (i := 216) (by decide +kernel), List.mem_of_getElem? (i := 998) (by decide +kernel), List.mem_of_getElem? (i := 999) (by decide +kernel)⟩
theorem lw_p74 : lw_okq (⟨"SoarHouse$Flight", "firstLeading", "(IIII)I"⟩, 17) := ⟨⟨by decide +kernel, by decide +kernel⟩, List.mem_of_getElem? (i := 216) (by decide +kernel), List.mem_of_getElem? (i := 1002) (by decide +kernel), List.mem_of_getElem? (i := 1003) (by decide +kernel)⟩
theorem lw_p75 : lw_okq (⟨"SoarHouse$Flight", "leads", "(II)Z"⟩, 17) := ⟨⟨by decide +kernel, by decide +kernel⟩, List.mem_of_getElem? (i := 216) (by decide +kernel), List.mem_of_getElem? (i := 1007) (by decide +kernel), List.mem_of_getElem? (i := 1008) (by decide +kernel)⟩
theorem lw_p76 : lw_okq (⟨"SoarHouse$Flight", "fieldsInReach", "(LSoarHouse$Plan;IIII)I"⟩, 17) := ⟨⟨by decide +kernel, by decide +kernel⟩, List.mem_of_getElem? (i := 216) (by decide +kernel), List.mem_of_getElem? (i := 1019) (by decide +kernel), List.mem_of_getElem? (i := 1020) (by decide +kernel)⟩
theorem lw_p77 : lw_okq (⟨"SoarHouse$Flight", "cellsReached", "(I)J"⟩, 17) := ⟨⟨by decide +kernel, by decide +kernel⟩, List.mem_of_getElem? (i := 216) (by decide +kernel), List.mem_of_getElem? (i := 1023) (by decide +kernel), List.mem_of_getElem? (i := 1024) (by decide +kernel)⟩
theorem lw_p78 : lw_okq (⟨"SoarHouse$Launches", "equip", "(III)Z"⟩, 9) := ⟨⟨by decide +kernel, by decide +kernel⟩, List.mem_of_getElem? (i := 286) (by decide +kernel), List.mem_of_getElem? (i := 1037) (by decide +kernel), List.mem_of_getElem? (i := 1038) (by decide +kernel)⟩
theorem lw_p79 : lw_okq (⟨"SoarHouse$Launches", "ask", "(ZI)I"⟩, 9) := ⟨⟨by decide +kernel, by decide +kernel⟩, List.mem_of_getElem? (i := 286) (by decide +kernel), List.mem_of_getElem? (i := 1049) (by decide +kernel), List.mem_of_getElem? (i := 1050) (by decide +kernel)⟩
def lw_privs_5 : List (MethodName × Nat) := [(⟨"SoarHouse$Course", "turns", "()I"⟩, 3), (⟨"SoarHouse$Flight", "spread", "(IIIZ)V"⟩, 17), (⟨"SoarHouse$Flight", "circled", "(JI)J"⟩, 17), (⟨"SoarHouse$Flight", "isFlown", "(I)Z"⟩, 17), (⟨"SoarHouse$Flight", "finishing", "(I)J"⟩, 17), (⟨"SoarHouse$Course", "finish", "()I"⟩, 3), (⟨"SoarHouse$Flight", "keepWhatLeadsThere", "()V"⟩, 17), (⟨"SoarHouse$Flight", "leading", "(III)J"⟩, 17), (⟨"SoarHouse$Flight", "uncircled", "(JI)J"⟩, 17), (⟨"SoarHouse$Flight", "walk", "()V"⟩, 17), (⟨"SoarHouse$Flight", "firstLeading", "(IIII)I"⟩, 17), (⟨"SoarHouse$Flight", "leads", "(II)Z"⟩, 17), (⟨"SoarHouse$Flight", "fieldsInReach", "(LSoarHouse$Plan;IIII)I"⟩, 17), (⟨"SoarHouse$Flight", "cellsReached", "(I)J"⟩, 17), (⟨"SoarHouse$Launches", "equip", "(III)Z"⟩, 9), (⟨"SoarHouse$Launches", "ask", "(ZI)I"⟩, 9)]
theorem lw_r5 : ∀ q ∈ lw_privs_5, lw_okq q := List.forall_mem_cons.mpr ⟨lw_p64, List.forall_mem_cons.mpr ⟨lw_p65, List.forall_mem_cons.mpr ⟨lw_p66, List.forall_mem_cons.mpr ⟨lw_p67, List.forall_mem_cons.mpr ⟨lw_p68, List.forall_mem_cons.mpr ⟨lw_p69, List.forall_mem_cons.mpr ⟨lw_p70, List.forall_mem_cons.mpr ⟨lw_p71, List.forall_mem_cons.mpr ⟨lw_p72, List.forall_mem_cons.mpr ⟨lw_p73, List.forall_mem_cons.mpr ⟨lw_p74, List.forall_mem_cons.mpr ⟨lw_p75, List.forall_mem_cons.mpr ⟨lw_p76, List.forall_mem_cons.mpr ⟨lw_p77, List.forall_mem_cons.mpr ⟨lw_p78, List.forall_mem_cons.mpr ⟨lw_p79, fun _ h => absurd h List.not_mem_nil⟩⟩⟩⟩⟩⟩⟩⟩⟩⟩⟩⟩⟩⟩⟩⟩
theorem lw_p80 : lw_okq (⟨"SoarHouse$Launches", "firstFree", "()I"⟩, 9) := ⟨⟨by decide +kernel, by decide +kernel⟩, List.mem_of_getElem? (i := 286) (by decide +kernel), List.mem_of_getElem? (i := 1053) (by decide +kernel), List.mem_of_getElem? (i := 1054) (by decide +kernel)⟩
theorem lw_p81 : lw_okq (⟨"SoarHouse$Launches", "tell", "(II)I"⟩, 9) := ⟨⟨by decide +kernel, by decide +kernel⟩, List.mem_of_getElem? (i := 286) (by decide +kernel), List.mem_of_getElem? (i := 1062) (by decide +kernel), List.mem_of_getElem? (i := 1063) (by decide +kernel)⟩
theorem lw_p82 : lw_okq (⟨"SoarHouse$Traces", "addPilot", "(I)I"⟩, 10) := ⟨⟨by decide +kernel, by decide +kernel⟩, List.mem_of_getElem? (i := 321) (by decide +kernel), List.mem_of_getElem? (i := 1070) (by decide +kernel), List.mem_of_getElem? (i := 1071) (by decide +kernel)⟩
theorem lw_p83 : lw_okq (⟨"SoarHouse$Traces", "hasPilot", "(I)Z"⟩, 10) := ⟨⟨by decide +kernel, by decide +kernel⟩, List.mem_of_getElem? (i := 321) (by decide +kernel), List.mem_of_getElem? (i := 1078) (by decide +kernel), List.mem_of_getElem? (i := 1079) (by decide +kernel)⟩
theorem lw_p84 : lw_okq (⟨"SoarHouse$Traces", "addFix", "(IIII)I"⟩, 10) := ⟨⟨by decide +kernel, by decide +kernel⟩, List.mem_of_getElem? (i := 321) (by decide +kernel), List.mem_of_getElem? (i := 1082) (by decide +kernel), List.mem_of_getElem? (i := 1083) (by decide +kernel)⟩
theorem lw_p85 : lw_okq (⟨"SoarHouse$Traces", "takeBack", "(I)Z"⟩, 10) := ⟨⟨by decide +kernel, by decide +kernel⟩, List.mem_of_getElem? (i := 321) (by decide +kernel), List.mem_of_getElem? (i := 1090) (by decide +kernel), List.mem_of_getElem? (i := 1091) (by decide +kernel)⟩
theorem lw_p86 : lw_okq (⟨"SoarHouse$Traces", "goOn", "(I)I"⟩, 10) := ⟨⟨by decide +kernel, by decide +kernel⟩, List.mem_of_getElem? (i := 321) (by decide +kernel), List.mem_of_getElem? (i := 1098) (by decide +kernel), List.mem_of_getElem? (i := 1099) (by decide +kernel)⟩
theorem lw_p87 : lw_okq (⟨"SoarHouse", "canJudge", "(I)Z"⟩, 16) := ⟨⟨by decide +kernel, by decide +kernel⟩, List.mem_of_getElem? (i := 25) (by decide +kernel), List.mem_of_getElem? (i := 1111) (by decide +kernel), List.mem_of_getElem? (i := 1112) (by decide +kernel)⟩
theorem lw_p88 : lw_okq (⟨"SoarHouse$Trace", "gather", "(LSoarHouse$Traces;II)V"⟩, 7) := ⟨⟨by decide +kernel, by decide +kernel⟩, List.mem_of_getElem? (i := 368) (by decide +kernel), List.mem_of_getElem? (i := 1115) (by decide +kernel), List.mem_of_getElem? (i := 1116) (by decide +kernel)⟩
theorem lw_p89 : lw_okq (⟨"SoarHouse$Traces", "counts", "(II)Z"⟩, 10) := ⟨⟨by decide +kernel, by decide +kernel⟩, List.mem_of_getElem? (i := 321) (by decide +kernel), List.mem_of_getElem? (i := 1120) (by decide +kernel), List.mem_of_getElem? (i := 1121) (by decide +kernel)⟩
theorem lw_p90 : lw_okq (⟨"SoarHouse$Trace", "mostRounded", "(LSoarHouse$Course;)I"⟩, 7) := ⟨⟨by decide +kernel, by decide +kernel⟩, List.mem_of_getElem? (i := 368) (by decide +kernel), List.mem_of_getElem? (i := 1124) (by decide +kernel), List.mem_of_getElem? (i := 1125) (by decide +kernel)⟩
theorem lw_p91 : lw_okq (⟨"SoarHouse$Trace", "roundedAt", "(LSoarHouse$Course;II)I"⟩, 7) := ⟨⟨by decide +kernel, by decide +kernel⟩, List.mem_of_getElem? (i := 368) (by decide +kernel), List.mem_of_getElem? (i := 1128) (by decide +kernel), List.mem_of_getElem? (i := 1129) (by decide +kernel)⟩
theorem lw_p92 : lw_okq (⟨"SoarHouse$Trace", "canRoundBehind", "(LSoarHouse$Course;II)Z"⟩, 7) := ⟨⟨by decide +kernel, by decide +kernel⟩, List.mem_of_getElem? (i := 368) (by decide +kernel), List.mem_of_getElem? (i := 1139) (by decide +kernel), List.mem_of_getElem? (i := 1140) (by decide +kernel)⟩
theorem lw_p93 : lw_okq (⟨"SoarHouse$Trace", "roundLeast", "(LSoarHouse$Course;)V"⟩, 7) := ⟨⟨by decide +kernel, by decide +kernel⟩, List.mem_of_getElem? (i := 368) (by decide +kernel), List.mem_of_getElem? (i := 1144) (by decide +kernel), List.mem_of_getElem? (i := 1145) (by decide +kernel)⟩
theorem lw_p94 : lw_okq (⟨"SoarHouse$Trace", "doneOn", "(LSoarHouse$Course;)I"⟩, 7) := ⟨⟨by decide +kernel, by decide +kernel⟩, List.mem_of_getElem? (i := 368) (by decide +kernel), List.mem_of_getElem? (i := 1152) (by decide +kernel), List.mem_of_getElem? (i := 1153) (by decide +kernel)⟩
theorem lw_p95 : lw_okq (⟨"SoarHouse$Trace", "legsUpTo", "(LSoarHouse$Course;I)I"⟩, 7) := ⟨⟨by decide +kernel, by decide +kernel⟩, List.mem_of_getElem? (i := 368) (by decide +kernel), List.mem_of_getElem? (i := 1156) (by decide +kernel), List.mem_of_getElem? (i := 1157) (by decide +kernel)⟩
def lw_privs_6 : List (MethodName × Nat) := [(⟨"SoarHouse$Launches", "firstFree", "()I"⟩, 9), (⟨"SoarHouse$Launches", "tell", "(II)I"⟩, 9), (⟨"SoarHouse$Traces", "addPilot", "(I)I"⟩, 10), (⟨"SoarHouse$Traces", "hasPilot", "(I)Z"⟩, 10), (⟨"SoarHouse$Traces", "addFix", "(IIII)I"⟩, 10), (⟨"SoarHouse$Traces", "takeBack", "(I)Z"⟩, 10), (⟨"SoarHouse$Traces", "goOn", "(I)I"⟩, 10), (⟨"SoarHouse", "canJudge", "(I)Z"⟩, 16), (⟨"SoarHouse$Trace", "gather", "(LSoarHouse$Traces;II)V"⟩, 7), (⟨"SoarHouse$Traces", "counts", "(II)Z"⟩, 10), (⟨"SoarHouse$Trace", "mostRounded", "(LSoarHouse$Course;)I"⟩, 7), (⟨"SoarHouse$Trace", "roundedAt", "(LSoarHouse$Course;II)I"⟩, 7), (⟨"SoarHouse$Trace", "canRoundBehind", "(LSoarHouse$Course;II)Z"⟩, 7), (⟨"SoarHouse$Trace", "roundLeast", "(LSoarHouse$Course;)V"⟩, 7), (⟨"SoarHouse$Trace", "doneOn", "(LSoarHouse$Course;)I"⟩, 7), (⟨"SoarHouse$Trace", "legsUpTo", "(LSoarHouse$Course;I)I"⟩, 7)]
theorem lw_r6 : ∀ q ∈ lw_privs_6, lw_okq q := List.forall_mem_cons.mpr ⟨lw_p80, List.forall_mem_cons.mpr ⟨lw_p81, List.forall_mem_cons.mpr ⟨lw_p82, List.forall_mem_cons.mpr ⟨lw_p83, List.forall_mem_cons.mpr ⟨lw_p84, List.forall_mem_cons.mpr ⟨lw_p85, List.forall_mem_cons.mpr ⟨lw_p86, List.forall_mem_cons.mpr ⟨lw_p87, List.forall_mem_cons.mpr ⟨lw_p88, List.forall_mem_cons.mpr ⟨lw_p89, List.forall_mem_cons.mpr ⟨lw_p90, List.forall_mem_cons.mpr ⟨lw_p91, List.forall_mem_cons.mpr ⟨lw_p92, List.forall_mem_cons.mpr ⟨lw_p93, List.forall_mem_cons.mpr ⟨lw_p94, List.forall_mem_cons.mpr ⟨lw_p95, fun _ h => absurd h List.not_mem_nil⟩⟩⟩⟩⟩⟩⟩⟩⟩⟩⟩⟩⟩⟩⟩⟩
theorem lw_p96 : lw_okq (⟨"SoarHouse$Trace", "legOf", "(LSoarHouse$Course;I)I"⟩, 7) := ⟨⟨by decide +kernel, by decide +kernel⟩, List.mem_of_getElem? (i := 368) (by decide +kernel), List.mem_of_getElem? (i := 1160) (by decide +kernel), List.mem_of_getElem? (i := 1161) (by decide +kernel)⟩
theorem lw_p97 : lw_okq (⟨"SoarHouse$Trace", "legsOf", "(LSoarHouse$Course;)I"⟩, 7) := ⟨⟨by decide +kernel, by decide +kernel⟩, List.mem_of_getElem? (i := 368) (by decide +kernel), List.mem_of_getElem? (i := 1165) (by decide +kernel), List.mem_of_getElem? (i := 1166) (by decide +kernel)⟩
theorem lw_p98 : lw_okq (⟨"SoarHouse$Trace", "timeOn", "(LSoarHouse$Course;)I"⟩, 7) := ⟨⟨by decide +kernel, by decide +kernel⟩, List.mem_of_getElem? (i := 368) (by decide +kernel), List.mem_of_getElem? (i := 1169) (by decide +kernel), List.mem_of_getElem? (i := 1170) (by decide +kernel)⟩
theorem lw_p99 : lw_okq (⟨"SoarHouse$Trace", "hasAll", "(LSoarHouse$Course;)Z"⟩, 7) := ⟨⟨by decide +kernel, by decide +kernel⟩, List.mem_of_getElem? (i := 368) (by decide +kernel), List.mem_of_getElem? (i := 1173) (by decide +kernel), List.mem_of_getElem? (i := 1174) (by decide +kernel)⟩
theorem lw_p100 : lw_okq (⟨"SoarHouse$Trace", "wallsForSure", "(LSoarHouse$Plan;)I"⟩, 7) := ⟨⟨by decide +kernel, by decide +kernel⟩, List.mem_of_getElem? (i := 368) (by decide +kernel), List.mem_of_getElem? (i := 1177) (by decide +kernel), List.mem_of_getElem? (i := 1178) (by decide +kernel)⟩
theorem lw_p101 : lw_okq (⟨"SoarHouse$Plan", "wallCell", "(I)I"⟩, 15) := ⟨⟨by decide +kernel, by decide +kernel⟩, List.mem_of_getElem? (i := 74) (by decide +kernel), List.mem_of_getElem? (i := 1181) (by decide +kernel), List.mem_of_getElem? (i := 1182) (by decide +kernel)⟩
theorem lw_p102 : lw_okq (⟨"SoarHouse$Plan", "wallAbove", "(I)I"⟩, 15) := ⟨⟨by decide +kernel, by decide +kernel⟩, List.mem_of_getElem? (i := 74) (by decide +kernel), List.mem_of_getElem? (i := 1185) (by decide +kernel), List.mem_of_getElem? (i := 1186) (by decide +kernel)⟩
theorem lw_p103 : lw_okq (⟨"SoarHouse$Plan", "wallHas", "(II)Z"⟩, 15) := ⟨⟨by decide +kernel, by decide +kernel⟩, List.mem_of_getElem? (i := 74) (by decide +kernel), List.mem_of_getElem? (i := 1189) (by decide +kernel), List.mem_of_getElem? (i := 1190) (by decide +kernel)⟩
theorem lw_p104 : lw_okq (⟨"SoarHouse$Trace", "wallsMaybe", "(LSoarHouse$Plan;)I"⟩, 7) := ⟨⟨by decide +kernel, by decide +kernel⟩, List.mem_of_getElem? (i := 368) (by decide +kernel), List.mem_of_getElem? (i := 1193) (by decide +kernel), List.mem_of_getElem? (i := 1194) (by decide +kernel)⟩
theorem lw_p105 : lw_okq (⟨"SoarHouse$Trace", "canEnterBehind", "(LSoarHouse$Plan;II)Z"⟩, 7) := ⟨⟨by decide +kernel, by decide +kernel⟩, List.mem_of_getElem? (i := 368) (by decide +kernel), List.mem_of_getElem? (i := 1197) (by decide +kernel), List.mem_of_getElem? (i := 1198) (by decide +kernel)⟩
theorem lw_p106 : lw_okq (⟨"SoarHouse$Scores", "weigh", "(LSoarHouse$Plan;LSoarHouse$Course;LSoarHouse$Traces;LSoarHouse$Trace;I)V"⟩, 1) := ⟨⟨by decide +kernel, by decide +kernel⟩, List.mem_of_getElem? (i := 399) (by decide +kernel), List.mem_of_getElem? (i := 1206) (by decide +kernel), List.mem_of_getElem? (i := 1207) (by decide +kernel)⟩
theorem lw_p107 : lw_okq (⟨"SoarHouse$Plan", "handicapOf", "(I)I"⟩, 15) := ⟨⟨by decide +kernel, by decide +kernel⟩, List.mem_of_getElem? (i := 74) (by decide +kernel), List.mem_of_getElem? (i := 1222) (by decide +kernel), List.mem_of_getElem? (i := 1223) (by decide +kernel)⟩
theorem lw_p108 : lw_okq (⟨"SoarHouse$Scores", "scoreOf", "(LSoarHouse$Law;I)I"⟩, 1) := ⟨⟨by decide +kernel, by decide +kernel⟩, List.mem_of_getElem? (i := 399) (by decide +kernel), List.mem_of_getElem? (i := 1229) (by decide +kernel), List.mem_of_getElem? (i := 1230) (by decide +kernel)⟩
theorem lw_p109 : lw_okq (⟨"SoarHouse$Law", "valueOf", "([II)I"⟩, 7) := ⟨⟨by decide +kernel, by decide +kernel⟩, List.mem_of_getElem? (i := 167) (by decide +kernel), List.mem_of_getElem? (i := 1233) (by decide +kernel), List.mem_of_getElem? (i := 1234) (by decide +kernel)⟩
theorem lw_p110 : lw_okq (⟨"SoarHouse$Scores", "rankOf", "(LSoarHouse$Law;II)I"⟩, 1) := ⟨⟨by decide +kernel, by decide +kernel⟩, List.mem_of_getElem? (i := 399) (by decide +kernel), List.mem_of_getElem? (i := 1244) (by decide +kernel), List.mem_of_getElem? (i := 1245) (by decide +kernel)⟩
theorem lw_p111 : lw_okq (⟨"SoarHouse$Trailers", "lay", "(I)I"⟩, 7) := ⟨⟨by decide +kernel, by decide +kernel⟩, List.mem_of_getElem? (i := 409) (by decide +kernel), List.mem_of_getElem? (i := 1253) (by decide +kernel), List.mem_of_getElem? (i := 1254) (by decide +kernel)⟩
def lw_privs_7 : List (MethodName × Nat) := [(⟨"SoarHouse$Trace", "legOf", "(LSoarHouse$Course;I)I"⟩, 7), (⟨"SoarHouse$Trace", "legsOf", "(LSoarHouse$Course;)I"⟩, 7), (⟨"SoarHouse$Trace", "timeOn", "(LSoarHouse$Course;)I"⟩, 7), (⟨"SoarHouse$Trace", "hasAll", "(LSoarHouse$Course;)Z"⟩, 7), (⟨"SoarHouse$Trace", "wallsForSure", "(LSoarHouse$Plan;)I"⟩, 7), (⟨"SoarHouse$Plan", "wallCell", "(I)I"⟩, 15), (⟨"SoarHouse$Plan", "wallAbove", "(I)I"⟩, 15), (⟨"SoarHouse$Plan", "wallHas", "(II)Z"⟩, 15), (⟨"SoarHouse$Trace", "wallsMaybe", "(LSoarHouse$Plan;)I"⟩, 7), (⟨"SoarHouse$Trace", "canEnterBehind", "(LSoarHouse$Plan;II)Z"⟩, 7), (⟨"SoarHouse$Scores", "weigh", "(LSoarHouse$Plan;LSoarHouse$Course;LSoarHouse$Traces;LSoarHouse$Trace;I)V"⟩, 1), (⟨"SoarHouse$Plan", "handicapOf", "(I)I"⟩, 15), (⟨"SoarHouse$Scores", "scoreOf", "(LSoarHouse$Law;I)I"⟩, 1), (⟨"SoarHouse$Law", "valueOf", "([II)I"⟩, 7), (⟨"SoarHouse$Scores", "rankOf", "(LSoarHouse$Law;II)I"⟩, 1), (⟨"SoarHouse$Trailers", "lay", "(I)I"⟩, 7)]
theorem lw_r7 : ∀ q ∈ lw_privs_7, lw_okq q := List.forall_mem_cons.mpr ⟨lw_p96, List.forall_mem_cons.mpr ⟨lw_p97, List.forall_mem_cons.mpr ⟨lw_p98, List.forall_mem_cons.mpr ⟨lw_p99, List.forall_mem_cons.mpr ⟨lw_p100, List.forall_mem_cons.mpr ⟨lw_p101, List.forall_mem_cons.mpr ⟨lw_p102, List.forall_mem_cons.mpr ⟨lw_p103, List.forall_mem_cons.mpr ⟨lw_p104, List.forall_mem_cons.mpr ⟨lw_p105, List.forall_mem_cons.mpr ⟨lw_p106, List.forall_mem_cons.mpr ⟨lw_p107, List.forall_mem_cons.mpr ⟨lw_p108, List.forall_mem_cons.mpr ⟨lw_p109, List.forall_mem_cons.mpr ⟨lw_p110, List.forall_mem_cons.mpr ⟨lw_p111, fun _ h => absurd h List.not_mem_nil⟩⟩⟩⟩⟩⟩⟩⟩⟩⟩⟩⟩⟩⟩⟩⟩
theorem lw_p112 : lw_okq (⟨"SoarHouse$Trailers", "minutesBetween", "(LSoarHouse$Plan;II)I"⟩, 7) := ⟨⟨by decide +kernel, by decide +kernel⟩, List.mem_of_getElem? (i := 409) (by decide +kernel), List.mem_of_getElem? (i := 1265) (by decide +kernel), List.mem_of_getElem? (i := 1266) (by decide +kernel)⟩
theorem lw_p113 : lw_okq (⟨"SoarHouse$Trailers", "measure", "(LSoarHouse$Plan;I)V"⟩, 7) := ⟨⟨by decide +kernel, by decide +kernel⟩, List.mem_of_getElem? (i := 409) (by decide +kernel), List.mem_of_getElem? (i := 1269) (by decide +kernel), List.mem_of_getElem? (i := 1270) (by decide +kernel)⟩
theorem lw_p114 : lw_okq (⟨"SoarHouse", "bringHome", "(II)Z"⟩, 16) := ⟨⟨by decide +kernel, by decide +kernel⟩, List.mem_of_getElem? (i := 25) (by decide +kernel), List.mem_of_getElem? (i := 1279) (by decide +kernel), List.mem_of_getElem? (i := 1280) (by decide +kernel)⟩
theorem lw_p115 : lw_okq (⟨"SoarHouse$Trailers", "share", "(LSoarHouse$Plan;II)Z"⟩, 7) := ⟨⟨by decide +kernel, by decide +kernel⟩, List.mem_of_getElem? (i := 409) (by decide +kernel), List.mem_of_getElem? (i := 1283) (by decide +kernel), List.mem_of_getElem? (i := 1284) (by decide +kernel)⟩
theorem lw_p116 : lw_okq (⟨"SoarHouse$Trailers", "give", "(III)V"⟩, 7) := ⟨⟨by decide +kernel, by decide +kernel⟩, List.mem_of_getElem? (i := 409) (by decide +kernel), List.mem_of_getElem? (i := 1287) (by decide +kernel), List.mem_of_getElem? (i := 1288) (by decide +kernel)⟩
theorem lw_p117 : lw_okq (⟨"SoarHouseModel", "beginMap", "()V"⟩, 100) := ⟨⟨by decide +kernel, by decide +kernel⟩, List.mem_of_getElem? (i := 1304) (by decide +kernel), List.mem_of_getElem? (i := 1312) (by decide +kernel), List.mem_of_getElem? (i := 1313) (by decide +kernel)⟩
theorem lw_p118 : lw_okq (⟨"SoarHouseModel", "measure", "()V"⟩, 100) := ⟨⟨by decide +kernel, by decide +kernel⟩, List.mem_of_getElem? (i := 1304) (by decide +kernel), List.mem_of_getElem? (i := 1316) (by decide +kernel), List.mem_of_getElem? (i := 1317) (by decide +kernel)⟩
theorem lw_p119 : lw_okq (⟨"SoarHouseModel", "takeTape", "()V"⟩, 100) := ⟨⟨by decide +kernel, by decide +kernel⟩, List.mem_of_getElem? (i := 1304) (by decide +kernel), List.mem_of_getElem? (i := 1627) (by decide +kernel), List.mem_of_getElem? (i := 1628) (by decide +kernel)⟩
theorem lw_p120 : lw_okq (⟨"SoarHouseModel", "next", "()V"⟩, 100) := ⟨⟨by decide +kernel, by decide +kernel⟩, List.mem_of_getElem? (i := 1304) (by decide +kernel), List.mem_of_getElem? (i := 1631) (by decide +kernel), List.mem_of_getElem? (i := 1632) (by decide +kernel)⟩
theorem lw_p121 : lw_okq (⟨"SoarHouseModel", "sign", "(I)I"⟩, 100) := ⟨⟨by decide +kernel, by decide +kernel⟩, List.mem_of_getElem? (i := 1304) (by decide +kernel), List.mem_of_getElem? (i := 1635) (by decide +kernel), List.mem_of_getElem? (i := 1636) (by decide +kernel)⟩
theorem lw_p122 : lw_okq (⟨"SoarHouseModel", "isGood", "()Z"⟩, 100) := ⟨⟨by decide +kernel, by decide +kernel⟩, List.mem_of_getElem? (i := 1304) (by decide +kernel), List.mem_of_getElem? (i := 1675) (by decide +kernel), List.mem_of_getElem? (i := 1676) (by decide +kernel)⟩
theorem lw_p123 : lw_okq (⟨"SoarHouseModel", "readLine", "()V"⟩, 100) := ⟨⟨by decide +kernel, by decide +kernel⟩, List.mem_of_getElem? (i := 1304) (by decide +kernel), List.mem_of_getElem? (i := 1679) (by decide +kernel), List.mem_of_getElem? (i := 1680) (by decide +kernel)⟩
theorem lw_p124 : lw_okq (⟨"SoarHouseModel", "isWord", "(J)Z"⟩, 100) := ⟨⟨by decide +kernel, by decide +kernel⟩, List.mem_of_getElem? (i := 1304) (by decide +kernel), List.mem_of_getElem? (i := 1683) (by decide +kernel), List.mem_of_getElem? (i := 1684) (by decide +kernel)⟩
theorem lw_p125 : lw_okq (⟨"SoarHouseModel", "wrong", "()V"⟩, 100) := ⟨⟨by decide +kernel, by decide +kernel⟩, List.mem_of_getElem? (i := 1304) (by decide +kernel), List.mem_of_getElem? (i := 1687) (by decide +kernel), List.mem_of_getElem? (i := 1688) (by decide +kernel)⟩
theorem lw_p126 : lw_okq (⟨"SoarHouseModel", "fails", "(II)V"⟩, 100) := ⟨⟨by decide +kernel, by decide +kernel⟩, List.mem_of_getElem? (i := 1304) (by decide +kernel), List.mem_of_getElem? (i := 1691) (by decide +kernel), List.mem_of_getElem? (i := 1692) (by decide +kernel)⟩
theorem lw_p127 : lw_okq (⟨"SoarHouseModel", "readWall", "()V"⟩, 100) := ⟨⟨by decide +kernel, by decide +kernel⟩, List.mem_of_getElem? (i := 1304) (by decide +kernel), List.mem_of_getElem? (i := 1695) (by decide +kernel), List.mem_of_getElem? (i := 1696) (by decide +kernel)⟩
def lw_privs_8 : List (MethodName × Nat) := [(⟨"SoarHouse$Trailers", "minutesBetween", "(LSoarHouse$Plan;II)I"⟩, 7), (⟨"SoarHouse$Trailers", "measure", "(LSoarHouse$Plan;I)V"⟩, 7), (⟨"SoarHouse", "bringHome", "(II)Z"⟩, 16), (⟨"SoarHouse$Trailers", "share", "(LSoarHouse$Plan;II)Z"⟩, 7), (⟨"SoarHouse$Trailers", "give", "(III)V"⟩, 7), (⟨"SoarHouseModel", "beginMap", "()V"⟩, 100), (⟨"SoarHouseModel", "measure", "()V"⟩, 100), (⟨"SoarHouseModel", "takeTape", "()V"⟩, 100), (⟨"SoarHouseModel", "next", "()V"⟩, 100), (⟨"SoarHouseModel", "sign", "(I)I"⟩, 100), (⟨"SoarHouseModel", "isGood", "()Z"⟩, 100), (⟨"SoarHouseModel", "readLine", "()V"⟩, 100), (⟨"SoarHouseModel", "isWord", "(J)Z"⟩, 100), (⟨"SoarHouseModel", "wrong", "()V"⟩, 100), (⟨"SoarHouseModel", "fails", "(II)V"⟩, 100), (⟨"SoarHouseModel", "readWall", "()V"⟩, 100)]
theorem lw_r8 : ∀ q ∈ lw_privs_8, lw_okq q := List.forall_mem_cons.mpr ⟨lw_p112, List.forall_mem_cons.mpr ⟨lw_p113, List.forall_mem_cons.mpr ⟨lw_p114, List.forall_mem_cons.mpr ⟨lw_p115, List.forall_mem_cons.mpr ⟨lw_p116, List.forall_mem_cons.mpr ⟨lw_p117, List.forall_mem_cons.mpr ⟨lw_p118, List.forall_mem_cons.mpr ⟨lw_p119, List.forall_mem_cons.mpr ⟨lw_p120, List.forall_mem_cons.mpr ⟨lw_p121, List.forall_mem_cons.mpr ⟨lw_p122, List.forall_mem_cons.mpr ⟨lw_p123, List.forall_mem_cons.mpr ⟨lw_p124, List.forall_mem_cons.mpr ⟨lw_p125, List.forall_mem_cons.mpr ⟨lw_p126, List.forall_mem_cons.mpr ⟨lw_p127, fun _ h => absurd h List.not_mem_nil⟩⟩⟩⟩⟩⟩⟩⟩⟩⟩⟩⟩⟩⟩⟩⟩
theorem lw_p128 : lw_okq (⟨"SoarHouseModel", "cell", "()I"⟩, 100) := ⟨⟨by decide +kernel, by decide +kernel⟩, List.mem_of_getElem? (i := 1304) (by decide +kernel), List.mem_of_getElem? (i := 1699) (by decide +kernel), List.mem_of_getElem? (i := 1700) (by decide +kernel)⟩
theorem lw_p129 : lw_okq (⟨"SoarHouseModel", "numeral", "(II)I"⟩, 100) := ⟨⟨by decide +kernel, by decide +kernel⟩, List.mem_of_getElem? (i := 1304) (by decide +kernel), List.mem_of_getElem? (i := 1703) (by decide +kernel), List.mem_of_getElem? (i := 1704) (by decide +kernel)⟩
theorem lw_p130 : lw_okq (⟨"SoarHouseModel", "must", "(Z)V"⟩, 100) := ⟨⟨by decide +kernel, by decide +kernel⟩, List.mem_of_getElem? (i := 1304) (by decide +kernel), List.mem_of_getElem? (i := 1707) (by decide +kernel), List.mem_of_getElem? (i := 1708) (by decide +kernel)⟩
theorem lw_p131 : lw_okq (⟨"SoarHouseModel", "readRoad", "()V"⟩, 100) := ⟨⟨by decide +kernel, by decide +kernel⟩, List.mem_of_getElem? (i := 1304) (by decide +kernel), List.mem_of_getElem? (i := 1711) (by decide +kernel), List.mem_of_getElem? (i := 1712) (by decide +kernel)⟩
theorem lw_p132 : lw_okq (⟨"SoarHouseModel", "readGlider", "()V"⟩, 100) := ⟨⟨by decide +kernel, by decide +kernel⟩, List.mem_of_getElem? (i := 1304) (by decide +kernel), List.mem_of_getElem? (i := 1715) (by decide +kernel), List.mem_of_getElem? (i := 1716) (by decide +kernel)⟩
theorem lw_p133 : lw_okq (⟨"SoarHouseModel", "readRow", "()V"⟩, 100) := ⟨⟨by decide +kernel, by decide +kernel⟩, List.mem_of_getElem? (i := 1304) (by decide +kernel), List.mem_of_getElem? (i := 1719) (by decide +kernel), List.mem_of_getElem? (i := 1720) (by decide +kernel)⟩
theorem lw_p134 : lw_okq (⟨"SoarHouseModel", "fresh", "(I[Z)I"⟩, 100) := ⟨⟨by decide +kernel, by decide +kernel⟩, List.mem_of_getElem? (i := 1304) (by decide +kernel), List.mem_of_getElem? (i := 1723) (by decide +kernel), List.mem_of_getElem? (i := 1724) (by decide +kernel)⟩
theorem lw_p135 : lw_okq (⟨"SoarHouseModel", "isGrounds", "(I)Z"⟩, 100) := ⟨⟨by decide +kernel, by decide +kernel⟩, List.mem_of_getElem? (i := 1304) (by decide +kernel), List.mem_of_getElem? (i := 1727) (by decide +kernel), List.mem_of_getElem? (i := 1728) (by decide +kernel)⟩
theorem lw_p136 : lw_okq (⟨"SoarHouseModel", "isGround", "(I)Z"⟩, 100) := ⟨⟨by decide +kernel, by decide +kernel⟩, List.mem_of_getElem? (i := 1304) (by decide +kernel), List.mem_of_getElem? (i := 1731) (by decide +kernel), List.mem_of_getElem? (i := 1732) (by decide +kernel)⟩
theorem lw_p137 : lw_okq (⟨"SoarHouseModel", "readLift", "()V"⟩, 100) := ⟨⟨by decide +kernel, by decide +kernel⟩, List.mem_of_getElem? (i := 1304) (by decide +kernel), List.mem_of_getElem? (i := 1735) (by decide +kernel), List.mem_of_getElem? (i := 1736) (by decide +kernel)⟩
theorem lw_p138 : lw_okq (⟨"SoarHouseModel", "readWind", "()V"⟩, 100) := ⟨⟨by decide +kernel, by decide +kernel⟩, List.mem_of_getElem? (i := 1304) (by decide +kernel), List.mem_of_getElem? (i := 1739) (by decide +kernel), List.mem_of_getElem? (i := 1740) (by decide +kernel)⟩
theorem lw_p139 : lw_okq (⟨"SoarHouseModel", "hourFor", "([I)I"⟩, 100) := ⟨⟨by decide +kernel, by decide +kernel⟩, List.mem_of_getElem? (i := 1304) (by decide +kernel), List.mem_of_getElem? (i := 1743) (by decide +kernel), List.mem_of_getElem? (i := 1744) (by decide +kernel)⟩
theorem lw_p140 : lw_okq (⟨"SoarHouseModel", "readTop", "()V"⟩, 100) := ⟨⟨by decide +kernel, by decide +kernel⟩, List.mem_of_getElem? (i := 1304) (by decide +kernel), List.mem_of_getElem? (i := 1747) (by decide +kernel), List.mem_of_getElem? (i := 1748) (by decide +kernel)⟩
theorem lw_p141 : lw_okq (⟨"SoarHouseModel", "readField", "()V"⟩, 100) := ⟨⟨by decide +kernel, by decide +kernel⟩, List.mem_of_getElem? (i := 1304) (by decide +kernel), List.mem_of_getElem? (i := 1751) (by decide +kernel), List.mem_of_getElem? (i := 1752) (by decide +kernel)⟩
theorem lw_p142 : lw_okq (⟨"SoarHouseModel", "is", "(I)Z"⟩, 100) := ⟨⟨by decide +kernel, by decide +kernel⟩, List.mem_of_getElem? (i := 1304) (by decide +kernel), List.mem_of_getElem? (i := 1755) (by decide +kernel), List.mem_of_getElem? (i := 1756) (by decide +kernel)⟩
theorem lw_p143 : lw_okq (⟨"SoarHouseModel", "liftOf", "(II)I"⟩, 100) := ⟨⟨by decide +kernel, by decide +kernel⟩, List.mem_of_getElem? (i := 1304) (by decide +kernel), List.mem_of_getElem? (i := 1773) (by decide +kernel), List.mem_of_getElem? (i := 1774) (by decide +kernel)⟩
def lw_privs_9 : List (MethodName × Nat) := [(⟨"SoarHouseModel", "cell", "()I"⟩, 100), (⟨"SoarHouseModel", "numeral", "(II)I"⟩, 100), (⟨"SoarHouseModel", "must", "(Z)V"⟩, 100), (⟨"SoarHouseModel", "readRoad", "()V"⟩, 100), (⟨"SoarHouseModel", "readGlider", "()V"⟩, 100), (⟨"SoarHouseModel", "readRow", "()V"⟩, 100), (⟨"SoarHouseModel", "fresh", "(I[Z)I"⟩, 100), (⟨"SoarHouseModel", "isGrounds", "(I)Z"⟩, 100), (⟨"SoarHouseModel", "isGround", "(I)Z"⟩, 100), (⟨"SoarHouseModel", "readLift", "()V"⟩, 100), (⟨"SoarHouseModel", "readWind", "()V"⟩, 100), (⟨"SoarHouseModel", "hourFor", "([I)I"⟩, 100), (⟨"SoarHouseModel", "readTop", "()V"⟩, 100), (⟨"SoarHouseModel", "readField", "()V"⟩, 100), (⟨"SoarHouseModel", "is", "(I)Z"⟩, 100), (⟨"SoarHouseModel", "liftOf", "(II)I"⟩, 100)]
theorem lw_r9 : ∀ q ∈ lw_privs_9, lw_okq q := List.forall_mem_cons.mpr ⟨lw_p128, List.forall_mem_cons.mpr ⟨lw_p129, List.forall_mem_cons.mpr ⟨lw_p130, List.forall_mem_cons.mpr ⟨lw_p131, List.forall_mem_cons.mpr ⟨lw_p132, List.forall_mem_cons.mpr ⟨lw_p133, List.forall_mem_cons.mpr ⟨lw_p134, List.forall_mem_cons.mpr ⟨lw_p135, List.forall_mem_cons.mpr ⟨lw_p136, List.forall_mem_cons.mpr ⟨lw_p137, List.forall_mem_cons.mpr ⟨lw_p138, List.forall_mem_cons.mpr ⟨lw_p139, List.forall_mem_cons.mpr ⟨lw_p140, List.forall_mem_cons.mpr ⟨lw_p141, List.forall_mem_cons.mpr ⟨lw_p142, List.forall_mem_cons.mpr ⟨lw_p143, fun _ h => absurd h List.not_mem_nil⟩⟩⟩⟩⟩⟩⟩⟩⟩⟩⟩⟩⟩⟩⟩⟩
theorem lw_p144 : lw_okq (⟨"SoarHouseModel", "forceOf", "(I)I"⟩, 100) := ⟨⟨by decide +kernel, by decide +kernel⟩, List.mem_of_getElem? (i := 1304) (by decide +kernel), List.mem_of_getElem? (i := 1781) (by decide +kernel), List.mem_of_getElem? (i := 1782) (by decide +kernel)⟩
theorem lw_p145 : lw_okq (⟨"SoarHouseModel", "latest", "([II)I"⟩, 100) := ⟨⟨by decide +kernel, by decide +kernel⟩, List.mem_of_getElem? (i := 1304) (by decide +kernel), List.mem_of_getElem? (i := 1785) (by decide +kernel), List.mem_of_getElem? (i := 1786) (by decide +kernel)⟩
theorem lw_p146 : lw_okq (⟨"SoarHouseModel", "wayOf", "(I)I"⟩, 100) := ⟨⟨by decide +kernel, by decide +kernel⟩, List.mem_of_getElem? (i := 1304) (by decide +kernel), List.mem_of_getElem? (i := 1789) (by decide +kernel), List.mem_of_getElem? (i := 1790) (by decide +kernel)⟩
theorem lw_p147 : lw_okq (⟨"SoarHouseModel", "topOf", "(I)I"⟩, 100) := ⟨⟨by decide +kernel, by decide +kernel⟩, List.mem_of_getElem? (i := 1304) (by decide +kernel), List.mem_of_getElem? (i := 1797) (by decide +kernel), List.mem_of_getElem? (i := 1798) (by decide +kernel)⟩
theorem lw_p148 : lw_okq (⟨"SoarHouseModel", "isShut", "(III)Z"⟩, 100) := ⟨⟨by decide +kernel, by decide +kernel⟩, List.mem_of_getElem? (i := 1304) (by decide +kernel), List.mem_of_getElem? (i := 1811) (by decide +kernel), List.mem_of_getElem? (i := 1812) (by decide +kernel)⟩
theorem lw_p149 : lw_okq (⟨"SoarHouseModel", "canBegin", "(IIII)Z"⟩, 100) := ⟨⟨by decide +kernel, by decide +kernel⟩, List.mem_of_getElem? (i := 1304) (by decide +kernel), List.mem_of_getElem? (i := 1819) (by decide +kernel), List.mem_of_getElem? (i := 1820) (by decide +kernel)⟩
theorem lw_p150 : lw_okq (⟨"SoarHouseModel", "isGlider", "(I)Z"⟩, 100) := ⟨⟨by decide +kernel, by decide +kernel⟩, List.mem_of_getElem? (i := 1304) (by decide +kernel), List.mem_of_getElem? (i := 1823) (by decide +kernel), List.mem_of_getElem? (i := 1824) (by decide +kernel)⟩
theorem lw_p151 : lw_okq (⟨"SoarHouseModel", "leads", "(IIIII)Z"⟩, 100) := ⟨⟨by decide +kernel, by decide +kernel⟩, List.mem_of_getElem? (i := 1304) (by decide +kernel), List.mem_of_getElem? (i := 1827) (by decide +kernel), List.mem_of_getElem? (i := 1828) (by decide +kernel)⟩
theorem lw_p152 : lw_okq (⟨"SoarHouseModel", "add", "(I)V"⟩, 100) := ⟨⟨by decide +kernel, by decide +kernel⟩, List.mem_of_getElem? (i := 1304) (by decide +kernel), List.mem_of_getElem? (i := 1841) (by decide +kernel), List.mem_of_getElem? (i := 1842) (by decide +kernel)⟩
theorem lw_p153 : lw_okq (⟨"SoarHouseModel", "fly", "(IIIII)I"⟩, 100) := ⟨⟨by decide +kernel, by decide +kernel⟩, List.mem_of_getElem? (i := 1304) (by decide +kernel), List.mem_of_getElem? (i := 1849) (by decide +kernel), List.mem_of_getElem? (i := 1850) (by decide +kernel)⟩
theorem lw_p154 : lw_okq (⟨"SoarHouseModel", "reckon", "(II)V"⟩, 100) := ⟨⟨by decide +kernel, by decide +kernel⟩, List.mem_of_getElem? (i := 1304) (by decide +kernel), List.mem_of_getElem? (i := 1853) (by decide +kernel), List.mem_of_getElem? (i := 1854) (by decide +kernel)⟩
theorem lw_p155 : lw_okq (⟨"SoarHouseModel", "endBy", "(IIIIII)I"⟩, 100) := ⟨⟨by decide +kernel, by decide +kernel⟩, List.mem_of_getElem? (i := 1304) (by decide +kernel), List.mem_of_getElem? (i := 1860) (by decide +kernel), List.mem_of_getElem? (i := 1861) (by decide +kernel)⟩
theorem lw_p156 : lw_okq (⟨"SoarHouseModel", "isFlown", "(IIII)Z"⟩, 100) := ⟨⟨by decide +kernel, by decide +kernel⟩, List.mem_of_getElem? (i := 1304) (by decide +kernel), List.mem_of_getElem? (i := 1864) (by decide +kernel), List.mem_of_getElem? (i := 1865) (by decide +kernel)⟩
theorem lw_p157 : lw_okq (⟨"SoarHouseModel", "roundedIn", "(II)I"⟩, 100) := ⟨⟨by decide +kernel, by decide +kernel⟩, List.mem_of_getElem? (i := 1304) (by decide +kernel), List.mem_of_getElem? (i := 1868) (by decide +kernel), List.mem_of_getElem? (i := 1869) (by decide +kernel)⟩
theorem lw_p158 : lw_okq (⟨"SoarHouseModel", "glide", "(IIII)V"⟩, 100) := ⟨⟨by decide +kernel, by decide +kernel⟩, List.mem_of_getElem? (i := 1304) (by decide +kernel), List.mem_of_getElem? (i := 1880) (by decide +kernel), List.mem_of_getElem? (i := 1881) (by decide +kernel)⟩
theorem lw_p159 : lw_okq (⟨"SoarHouseModel", "isComeTo", "(II)Z"⟩, 100) := ⟨⟨by decide +kernel, by decide +kernel⟩, List.mem_of_getElem? (i := 1304) (by decide +kernel), List.mem_of_getElem? (i := 1884) (by decide +kernel), List.mem_of_getElem? (i := 1885) (by decide +kernel)⟩
def lw_privs_10 : List (MethodName × Nat) := [(⟨"SoarHouseModel", "forceOf", "(I)I"⟩, 100), (⟨"SoarHouseModel", "latest", "([II)I"⟩, 100), (⟨"SoarHouseModel", "wayOf", "(I)I"⟩, 100), (⟨"SoarHouseModel", "topOf", "(I)I"⟩, 100), (⟨"SoarHouseModel", "isShut", "(III)Z"⟩, 100), (⟨"SoarHouseModel", "canBegin", "(IIII)Z"⟩, 100), (⟨"SoarHouseModel", "isGlider", "(I)Z"⟩, 100), (⟨"SoarHouseModel", "leads", "(IIIII)Z"⟩, 100), (⟨"SoarHouseModel", "add", "(I)V"⟩, 100), (⟨"SoarHouseModel", "fly", "(IIIII)I"⟩, 100), (⟨"SoarHouseModel", "reckon", "(II)V"⟩, 100), (⟨"SoarHouseModel", "endBy", "(IIIIII)I"⟩, 100), (⟨"SoarHouseModel", "isFlown", "(IIII)Z"⟩, 100), (⟨"SoarHouseModel", "roundedIn", "(II)I"⟩, 100), (⟨"SoarHouseModel", "glide", "(IIII)V"⟩, 100), (⟨"SoarHouseModel", "isComeTo", "(II)Z"⟩, 100)]
theorem lw_r10 : ∀ q ∈ lw_privs_10, lw_okq q := List.forall_mem_cons.mpr ⟨lw_p144, List.forall_mem_cons.mpr ⟨lw_p145, List.forall_mem_cons.mpr ⟨lw_p146, List.forall_mem_cons.mpr ⟨lw_p147, List.forall_mem_cons.mpr ⟨lw_p148, List.forall_mem_cons.mpr ⟨lw_p149, List.forall_mem_cons.mpr ⟨lw_p150, List.forall_mem_cons.mpr ⟨lw_p151, List.forall_mem_cons.mpr ⟨lw_p152, List.forall_mem_cons.mpr ⟨lw_p153, List.forall_mem_cons.mpr ⟨lw_p154, List.forall_mem_cons.mpr ⟨lw_p155, List.forall_mem_cons.mpr ⟨lw_p156, List.forall_mem_cons.mpr ⟨lw_p157, List.forall_mem_cons.mpr ⟨lw_p158, List.forall_mem_cons.mpr ⟨lw_p159, fun _ h => absurd h List.not_mem_nil⟩⟩⟩⟩⟩⟩⟩⟩⟩⟩⟩⟩⟩⟩⟩⟩
theorem lw_p160 : lw_okq (⟨"SoarHouseModel", "queue", "()V"⟩, 100) := ⟨⟨by decide +kernel, by decide +kernel⟩, List.mem_of_getElem? (i := 1304) (by decide +kernel), List.mem_of_getElem? (i := 1899) (by decide +kernel), List.mem_of_getElem? (i := 1900) (by decide +kernel)⟩
theorem lw_p161 : lw_okq (⟨"SoarHouseModel", "isPilot", "(I)Z"⟩, 100) := ⟨⟨by decide +kernel, by decide +kernel⟩, List.mem_of_getElem? (i := 1304) (by decide +kernel), List.mem_of_getElem? (i := 1915) (by decide +kernel), List.mem_of_getElem? (i := 1916) (by decide +kernel)⟩
theorem lw_p162 : lw_okq (⟨"SoarHouseModel", "trace", "(II)V"⟩, 100) := ⟨⟨by decide +kernel, by decide +kernel⟩, List.mem_of_getElem? (i := 1304) (by decide +kernel), List.mem_of_getElem? (i := 1935) (by decide +kernel), List.mem_of_getElem? (i := 1936) (by decide +kernel)⟩
theorem lw_p163 : lw_okq (⟨"SoarHouseModel", "mostRounded", "()I"⟩, 100) := ⟨⟨by decide +kernel, by decide +kernel⟩, List.mem_of_getElem? (i := 1304) (by decide +kernel), List.mem_of_getElem? (i := 1939) (by decide +kernel), List.mem_of_getElem? (i := 1940) (by decide +kernel)⟩
theorem lw_p164 : lw_okq (⟨"SoarHouseModel", "isAtPoint", "(II)Z"⟩, 100) := ⟨⟨by decide +kernel, by decide +kernel⟩, List.mem_of_getElem? (i := 1304) (by decide +kernel), List.mem_of_getElem? (i := 1943) (by decide +kernel), List.mem_of_getElem? (i := 1944) (by decide +kernel)⟩
theorem lw_p165 : lw_okq (⟨"SoarHouseModel", "toZone", "(II)I"⟩, 100) := ⟨⟨by decide +kernel, by decide +kernel⟩, List.mem_of_getElem? (i := 1304) (by decide +kernel), List.mem_of_getElem? (i := 1953) (by decide +kernel), List.mem_of_getElem? (i := 1954) (by decide +kernel)⟩
theorem lw_p166 : lw_okq (⟨"SoarHouseModel", "leastRounded", "()I"⟩, 100) := ⟨⟨by decide +kernel, by decide +kernel⟩, List.mem_of_getElem? (i := 1304) (by decide +kernel), List.mem_of_getElem? (i := 1957) (by decide +kernel), List.mem_of_getElem? (i := 1958) (by decide +kernel)⟩
theorem lw_p167 : lw_okq (⟨"SoarHouseModel", "doneOf", "()I"⟩, 100) := ⟨⟨by decide +kernel, by decide +kernel⟩, List.mem_of_getElem? (i := 1304) (by decide +kernel), List.mem_of_getElem? (i := 1965) (by decide +kernel), List.mem_of_getElem? (i := 1966) (by decide +kernel)⟩
theorem lw_p168 : lw_okq (⟨"SoarHouseModel", "lengthOf", "(I)I"⟩, 100) := ⟨⟨by decide +kernel, by decide +kernel⟩, List.mem_of_getElem? (i := 1304) (by decide +kernel), List.mem_of_getElem? (i := 1969) (by decide +kernel), List.mem_of_getElem? (i := 1970) (by decide +kernel)⟩
theorem lw_p169 : lw_okq (⟨"SoarHouseModel", "legsOf", "()I"⟩, 100) := ⟨⟨by decide +kernel, by decide +kernel⟩, List.mem_of_getElem? (i := 1304) (by decide +kernel), List.mem_of_getElem? (i := 1973) (by decide +kernel), List.mem_of_getElem? (i := 1974) (by decide +kernel)⟩
theorem lw_p170 : lw_okq (⟨"SoarHouseModel", "timeOf", "()I"⟩, 100) := ⟨⟨by decide +kernel, by decide +kernel⟩, List.mem_of_getElem? (i := 1304) (by decide +kernel), List.mem_of_getElem? (i := 1977) (by decide +kernel), List.mem_of_getElem? (i := 1978) (by decide +kernel)⟩
theorem lw_p171 : lw_okq (⟨"SoarHouseModel", "sureWalls", "()I"⟩, 100) := ⟨⟨by decide +kernel, by decide +kernel⟩, List.mem_of_getElem? (i := 1304) (by decide +kernel), List.mem_of_getElem? (i := 1981) (by decide +kernel), List.mem_of_getElem? (i := 1982) (by decide +kernel)⟩
theorem lw_p172 : lw_okq (⟨"SoarHouseModel", "maybeWalls", "()I"⟩, 100) := ⟨⟨by decide +kernel, by decide +kernel⟩, List.mem_of_getElem? (i := 1304) (by decide +kernel), List.mem_of_getElem? (i := 1985) (by decide +kernel), List.mem_of_getElem? (i := 1986) (by decide +kernel)⟩
theorem lw_p173 : lw_okq (⟨"SoarHouseModel", "mayEnter", "(II)Z"⟩, 100) := ⟨⟨by decide +kernel, by decide +kernel⟩, List.mem_of_getElem? (i := 1304) (by decide +kernel), List.mem_of_getElem? (i := 1989) (by decide +kernel), List.mem_of_getElem? (i := 1990) (by decide +kernel)⟩
theorem lw_p174 : lw_okq (⟨"SoarHouseModel", "e", "()V"⟩, 100) := ⟨⟨by decide +kernel, by decide +kernel⟩, List.mem_of_getElem? (i := 1304) (by decide +kernel), List.mem_of_getElem? (i := 1997) (by decide +kernel), List.mem_of_getElem? (i := 1998) (by decide +kernel)⟩
theorem lw_p175 : lw_okq (⟨"SoarHouseModel", "put", "(II)V"⟩, 100) := ⟨⟨by decide +kernel, by decide +kernel⟩, List.mem_of_getElem? (i := 1304) (by decide +kernel), List.mem_of_getElem? (i := 2001) (by decide +kernel), List.mem_of_getElem? (i := 2002) (by decide +kernel)⟩
def lw_privs_11 : List (MethodName × Nat) := [(⟨"SoarHouseModel", "queue", "()V"⟩, 100), (⟨"SoarHouseModel", "isPilot", "(I)Z"⟩, 100), (⟨"SoarHouseModel", "trace", "(II)V"⟩, 100), (⟨"SoarHouseModel", "mostRounded", "()I"⟩, 100), (⟨"SoarHouseModel", "isAtPoint", "(II)Z"⟩, 100), (⟨"SoarHouseModel", "toZone", "(II)I"⟩, 100), (⟨"SoarHouseModel", "leastRounded", "()I"⟩, 100), (⟨"SoarHouseModel", "doneOf", "()I"⟩, 100), (⟨"SoarHouseModel", "lengthOf", "(I)I"⟩, 100), (⟨"SoarHouseModel", "legsOf", "()I"⟩, 100), (⟨"SoarHouseModel", "timeOf", "()I"⟩, 100), (⟨"SoarHouseModel", "sureWalls", "()I"⟩, 100), (⟨"SoarHouseModel", "maybeWalls", "()I"⟩, 100), (⟨"SoarHouseModel", "mayEnter", "(II)Z"⟩, 100), (⟨"SoarHouseModel", "e", "()V"⟩, 100), (⟨"SoarHouseModel", "put", "(II)V"⟩, 100)]
theorem lw_r11 : ∀ q ∈ lw_privs_11, lw_okq q := List.forall_mem_cons.mpr ⟨lw_p160, List.forall_mem_cons.mpr ⟨lw_p161, List.forall_mem_cons.mpr ⟨lw_p162, List.forall_mem_cons.mpr ⟨lw_p163, List.forall_mem_cons.mpr ⟨lw_p164, List.forall_mem_cons.mpr ⟨lw_p165, List.forall_mem_cons.mpr ⟨lw_p166, List.forall_mem_cons.mpr ⟨lw_p167, List.forall_mem_cons.mpr ⟨lw_p168, List.forall_mem_cons.mpr ⟨lw_p169, List.forall_mem_cons.mpr ⟨lw_p170, List.forall_mem_cons.mpr ⟨lw_p171, List.forall_mem_cons.mpr ⟨lw_p172, List.forall_mem_cons.mpr ⟨lw_p173, List.forall_mem_cons.mpr ⟨lw_p174, List.forall_mem_cons.mpr ⟨lw_p175, fun _ h => absurd h List.not_mem_nil⟩⟩⟩⟩⟩⟩⟩⟩⟩⟩⟩⟩⟩⟩⟩⟩
theorem lw_p176 : lw_okq (⟨"SoarHouseModel", "unit", "()Z"⟩, 100) := ⟨⟨by decide +kernel, by decide +kernel⟩, List.mem_of_getElem? (i := 1304) (by decide +kernel), List.mem_of_getElem? (i := 2005) (by decide +kernel), List.mem_of_getElem? (i := 2006) (by decide +kernel)⟩
theorem lw_p177 : lw_okq (⟨"SoarHouseModel", "wordHere", "()I"⟩, 100) := ⟨⟨by decide +kernel, by decide +kernel⟩, List.mem_of_getElem? (i := 1304) (by decide +kernel), List.mem_of_getElem? (i := 2009) (by decide +kernel), List.mem_of_getElem? (i := 2010) (by decide +kernel)⟩
theorem lw_p178 : lw_okq (⟨"SoarHouseModel", "step", "(II)V"⟩, 100) := ⟨⟨by decide +kernel, by decide +kernel⟩, List.mem_of_getElem? (i := 1304) (by decide +kernel), List.mem_of_getElem? (i := 2013) (by decide +kernel), List.mem_of_getElem? (i := 2014) (by decide +kernel)⟩
theorem lw_p179 : lw_okq (⟨"SoarHouseModel", "behind", "()Z"⟩, 100) := ⟨⟨by decide +kernel, by decide +kernel⟩, List.mem_of_getElem? (i := 1304) (by decide +kernel), List.mem_of_getElem? (i := 2017) (by decide +kernel), List.mem_of_getElem? (i := 2018) (by decide +kernel)⟩
theorem lw_p180 : lw_okq (⟨"SoarHouseModel", "rankHere", "()I"⟩, 100) := ⟨⟨by decide +kernel, by decide +kernel⟩, List.mem_of_getElem? (i := 1304) (by decide +kernel), List.mem_of_getElem? (i := 2021) (by decide +kernel), List.mem_of_getElem? (i := 2022) (by decide +kernel)⟩
theorem lw_p181 : lw_okq (⟨"SoarHouseModel", "isCompared", "()Z"⟩, 100) := ⟨⟨by decide +kernel, by decide +kernel⟩, List.mem_of_getElem? (i := 1304) (by decide +kernel), List.mem_of_getElem? (i := 2025) (by decide +kernel), List.mem_of_getElem? (i := 2026) (by decide +kernel)⟩
theorem lw_p182 : lw_okq (⟨"SoarHouseModel", "compareAll", "(I)V"⟩, 100) := ⟨⟨by decide +kernel, by decide +kernel⟩, List.mem_of_getElem? (i := 1304) (by decide +kernel), List.mem_of_getElem? (i := 2033) (by decide +kernel), List.mem_of_getElem? (i := 2034) (by decide +kernel)⟩
theorem lw_p183 : lw_okq (⟨"SoarHouseModel", "scoreOf", "(II)I"⟩, 100) := ⟨⟨by decide +kernel, by decide +kernel⟩, List.mem_of_getElem? (i := 1304) (by decide +kernel), List.mem_of_getElem? (i := 2037) (by decide +kernel), List.mem_of_getElem? (i := 2038) (by decide +kernel)⟩
theorem lw_p184 : lw_okq (⟨"SoarHouseModel", "term", "(II)I"⟩, 100) := ⟨⟨by decide +kernel, by decide +kernel⟩, List.mem_of_getElem? (i := 1304) (by decide +kernel), List.mem_of_getElem? (i := 2044) (by decide +kernel), List.mem_of_getElem? (i := 2045) (by decide +kernel)⟩
theorem lw_p185 : lw_okq (⟨"SoarHouseModel", "seek", "(II)I"⟩, 100) := ⟨⟨by decide +kernel, by decide +kernel⟩, List.mem_of_getElem? (i := 1304) (by decide +kernel), List.mem_of_getElem? (i := 2072) (by decide +kernel), List.mem_of_getElem? (i := 2073) (by decide +kernel)⟩
theorem lw_p186 : lw_okq (⟨"SoarHouseModel", "lastHome", "(III)I"⟩, 100) := ⟨⟨by decide +kernel, by decide +kernel⟩, List.mem_of_getElem? (i := 1304) (by decide +kernel), List.mem_of_getElem? (i := 2076) (by decide +kernel), List.mem_of_getElem? (i := 2077) (by decide +kernel)⟩
def lw_privs_12 : List (MethodName × Nat) := [(⟨"SoarHouseModel", "unit", "()Z"⟩, 100), (⟨"SoarHouseModel", "wordHere", "()I"⟩, 100), (⟨"SoarHouseModel", "step", "(II)V"⟩, 100), (⟨"SoarHouseModel", "behind", "()Z"⟩, 100), (⟨"SoarHouseModel", "rankHere", "()I"⟩, 100), (⟨"SoarHouseModel", "isCompared", "()Z"⟩, 100), (⟨"SoarHouseModel", "compareAll", "(I)V"⟩, 100), (⟨"SoarHouseModel", "scoreOf", "(II)I"⟩, 100), (⟨"SoarHouseModel", "term", "(II)I"⟩, 100), (⟨"SoarHouseModel", "seek", "(II)I"⟩, 100), (⟨"SoarHouseModel", "lastHome", "(III)I"⟩, 100)]
theorem lw_r12 : ∀ q ∈ lw_privs_12, lw_okq q := List.forall_mem_cons.mpr ⟨lw_p176, List.forall_mem_cons.mpr ⟨lw_p177, List.forall_mem_cons.mpr ⟨lw_p178, List.forall_mem_cons.mpr ⟨lw_p179, List.forall_mem_cons.mpr ⟨lw_p180, List.forall_mem_cons.mpr ⟨lw_p181, List.forall_mem_cons.mpr ⟨lw_p182, List.forall_mem_cons.mpr ⟨lw_p183, List.forall_mem_cons.mpr ⟨lw_p184, List.forall_mem_cons.mpr ⟨lw_p185, List.forall_mem_cons.mpr ⟨lw_p186, fun _ h => absurd h List.not_mem_nil⟩⟩⟩⟩⟩⟩⟩⟩⟩⟩⟩
def lw_privs : List (MethodName × Nat) := lw_privs_1 ++ (lw_privs_2 ++ (lw_privs_3 ++ (lw_privs_4 ++ (lw_privs_5 ++ (lw_privs_6 ++ (lw_privs_7 ++ (lw_privs_8 ++ (lw_privs_9 ++ (lw_privs_10 ++ (lw_privs_11 ++ (lw_privs_12)))))))))))
def lw_tbl : List Cond := k2_sels lw_privs ++ tables_1
theorem lw_privs_ok : ∀ q ∈ lw_privs, lw_okq q := by
  show ∀ q ∈ lw_privs_1 ++ (lw_privs_2 ++ (lw_privs_3 ++ (lw_privs_4 ++ (lw_privs_5 ++ (lw_privs_6 ++ (lw_privs_7 ++ (lw_privs_8 ++ (lw_privs_9 ++ (lw_privs_10 ++ (lw_privs_11 ++ (lw_privs_12))))))))))), lw_okq q
  exact List.forall_mem_append.mpr ⟨lw_r1, List.forall_mem_append.mpr ⟨lw_r2, List.forall_mem_append.mpr ⟨lw_r3, List.forall_mem_append.mpr ⟨lw_r4, List.forall_mem_append.mpr ⟨lw_r5, List.forall_mem_append.mpr ⟨lw_r6, List.forall_mem_append.mpr ⟨lw_r7, List.forall_mem_append.mpr ⟨lw_r8, List.forall_mem_append.mpr ⟨lw_r9, List.forall_mem_append.mpr ⟨lw_r10, List.forall_mem_append.mpr ⟨lw_r11, lw_r12⟩⟩⟩⟩⟩⟩⟩⟩⟩⟩⟩
def RX0 : String := "SoarHouse$Course"
def TX0 : u_T := fun k => match k with
  | 0 => ("SoarHouse$Course", "points", "[I", true)
  | 1 => ("SoarHouse$Course", "count", "I", false)
  | _ => ("SoarHouse$Course", "zone", "I", false)
def tyX0 : Nat → FieldType := fun k => match k with
  | 0 => .array .int
  | 1 => .int
  | _ => .int
abbrev wsX00 : List Cond := u_ws RX0 TX0 3
theorem nmX0 : ∀ a, a < 3 → ∀ b, b < 3 → a ≠ b → (TX0 a).2.1 ≠ (TX0 b).2.1 := by decide +kernel
theorem tyX0_ok : ∀ k, k < 3 → parseFieldDescriptor (TX0 k).2.2.1 = some (tyX0 k) := by decide +kernel
abbrev cX0_init : ByteArray := prog_2_method_1_code
def yX0_init : MethodName := ⟨RX0, "<init>", "()V"⟩
abbrev cX0_take : ByteArray := prog_2_method_2_code
def yX0_take : MethodName := ⟨RX0, "take", "(IIII)Z"⟩
abbrev cX0_canTurn : ByteArray := prog_2_method_3_code
def yX0_canTurn : MethodName := ⟨RX0, "canTurn", "(II)Z"⟩
abbrev cX0_addPoint : ByteArray := prog_2_method_4_code
def yX0_addPoint : MethodName := ⟨RX0, "addPoint", "(I)V"⟩
abbrev cX0_turns : ByteArray := prog_2_method_5_code
def yX0_turns : MethodName := ⟨RX0, "turns", "()I"⟩
abbrev cX0_finish : ByteArray := prog_2_method_6_code
def yX0_finish : MethodName := ⟨RX0, "finish", "()I"⟩
abbrev cX0_roundedIn : ByteArray := prog_2_method_7_code
def yX0_roundedIn : MethodName := ⟨RX0, "roundedIn", "(II)I"⟩
def RX1 : String := "SoarHouse$Flight"
def TX1 : u_T := fun k => match k with
  | 0 => ("SoarHouse$Flight", "grid", "[J", true)
  | 1 => ("SoarHouse$Flight", "neighbours", "[I", true)
  | 2 => ("SoarHouse$Flight", "losses", "[I", true)
  | 3 => ("SoarHouse$Flight", "moves", "[I", true)
  | 4 => ("SoarHouse$Flight", "noCourse", "LSoarHouse$Course;", true)
  | 5 => ("SoarHouse$Flight", "moveCount", "I", false)
  | 6 => ("SoarHouse$Flight", "flown", "I", false)
  | 7 => ("SoarHouse$Flight", "plan", "LSoarHouse$Plan;", false)
  | 8 => ("SoarHouse$Flight", "course", "LSoarHouse$Course;", false)
  | 9 => ("SoarHouse$Flight", "top", "I", false)
  | 10 => ("SoarHouse$Flight", "hour", "I", false)
  | 11 => ("SoarHouse$Flight", "known", "Z", false)
  | 12 => ("SoarHouse$Flight", "glider", "I", false)
  | 13 => ("SoarHouse$Flight", "cell", "I", false)
  | 14 => ("SoarHouse$Flight", "moment", "I", false)
  | 15 => ("SoarHouse$Flight", "height", "I", false)
  | _ => ("SoarHouse$Flight", "finishHeight", "I", false)
def tyX1 : Nat → FieldType := fun k => match k with
  | 0 => .array .long
  | 1 => .array .int
  | 2 => .array .int
  | 3 => .array .int
  | 4 => .object "SoarHouse$Course"
  | 5 => .int
  | 6 => .int
  | 7 => .object "SoarHouse$Plan"
  | 8 => .object "SoarHouse$Course"
  | 9 => .int
  | 10 => .int
  | 11 => .boolean
  | 12 => .int
  | 13 => .int
  | 14 => .int
  | 15 => .int
  | _ => .int
abbrev wsX10 : List Cond := u_ws RX1 TX1 17
theorem nmX1 : ∀ a, a < 17 → ∀ b, b < 17 → a ≠ b → (TX1 a).2.1 ≠ (TX1 b).2.1 := by decide +kernel
theorem tyX1_ok : ∀ k, k < 17 → parseFieldDescriptor (TX1 k).2.2.1 = some (tyX1 k) := by decide +kernel
abbrev cX1_init : ByteArray := prog_3_method_1_code
def yX1_init : MethodName := ⟨RX1, "<init>", "(LSoarHouse$Plan;LSoarHouse$Course;)V"⟩
abbrev cX1_forget : ByteArray := prog_3_method_2_code
def yX1_forget : MethodName := ⟨RX1, "forget", "()V"⟩
abbrev cX1_knows : ByteArray := prog_3_method_3_code
def yX1_knows : MethodName := ⟨RX1, "knows", "(IIIII)Z"⟩
abbrev cX1_ask : ByteArray := prog_3_method_4_code
def yX1_ask : MethodName := ⟨RX1, "ask", "(IIIII)V"⟩
abbrev cX1_search : ByteArray := prog_3_method_5_code
def yX1_search : MethodName := ⟨RX1, "search", "(LSoarHouse$Plan;LSoarHouse$Course;)V"⟩
abbrev cX1_fieldsInReach : ByteArray := prog_3_method_6_code
def yX1_fieldsInReach : MethodName := ⟨RX1, "fieldsInReach", "(LSoarHouse$Plan;IIII)I"⟩
abbrev cX1_begin : ByteArray := prog_3_method_7_code
def yX1_begin : MethodName := ⟨RX1, "begin", "(LSoarHouse$Plan;LSoarHouse$Course;)V"⟩
abbrev cX1_index : ByteArray := prog_3_method_8_code
def yX1_index : MethodName := ⟨RX1, "index", "(III)I"⟩
abbrev cX1_heightsUpTo : ByteArray := prog_3_method_9_code
def yX1_heightsUpTo : MethodName := ⟨RX1, "heightsUpTo", "(I)J"⟩
abbrev cX1_cellsReached : ByteArray := prog_3_method_10_code
def yX1_cellsReached : MethodName := ⟨RX1, "cellsReached", "(I)J"⟩
abbrev cX1_finishing : ByteArray := prog_3_method_11_code
def yX1_finishing : MethodName := ⟨RX1, "finishing", "(I)J"⟩
abbrev cX1_isFlown : ByteArray := prog_3_method_12_code
def yX1_isFlown : MethodName := ⟨RX1, "isFlown", "(I)Z"⟩
abbrev cX1_readHour : ByteArray := prog_3_method_13_code
def yX1_readHour : MethodName := ⟨RX1, "readHour", "(I)V"⟩
abbrev cX1_spreadAll : ByteArray := prog_3_method_14_code
def yX1_spreadAll : MethodName := ⟨RX1, "spreadAll", "(IZ)V"⟩
abbrev cX1_spread : ByteArray := prog_3_method_15_code
def yX1_spread : MethodName := ⟨RX1, "spread", "(IIIZ)V"⟩
abbrev cX1_circled : ByteArray := prog_3_method_16_code
def yX1_circled : MethodName := ⟨RX1, "circled", "(JI)J"⟩
abbrev cX1_uncircled : ByteArray := prog_3_method_17_code
def yX1_uncircled : MethodName := ⟨RX1, "uncircled", "(JI)J"⟩
abbrev cX1_keepWhatLeadsThere : ByteArray := prog_3_method_18_code
def yX1_keepWhatLeadsThere : MethodName := ⟨RX1, "keepWhatLeadsThere", "()V"⟩
abbrev cX1_leading : ByteArray := prog_3_method_19_code
def yX1_leading : MethodName := ⟨RX1, "leading", "(III)J"⟩
abbrev cX1_walk : ByteArray := prog_3_method_20_code
def yX1_walk : MethodName := ⟨RX1, "walk", "()V"⟩
abbrev cX1_firstLeading : ByteArray := prog_3_method_21_code
def yX1_firstLeading : MethodName := ⟨RX1, "firstLeading", "(IIII)I"⟩
abbrev cX1_leads : ByteArray := prog_3_method_22_code
def yX1_leads : MethodName := ⟨RX1, "leads", "(II)Z"⟩
def RX2 : String := "SoarHouse$Launches"
def TX2 : u_T := fun k => match k with
  | 0 => ("SoarHouse$Launches", "winchSteps", "I", false)
  | 1 => ("SoarHouse$Launches", "planes", "I", false)
  | 2 => ("SoarHouse$Launches", "towSteps", "I", false)
  | 3 => ("SoarHouse$Launches", "winchFree", "I", false)
  | 4 => ("SoarHouse$Launches", "planeFree", "[I", true)
  | 5 => ("SoarHouse$Launches", "begins", "[I", true)
  | 6 => ("SoarHouse$Launches", "frees", "[I", true)
  | 7 => ("SoarHouse$Launches", "by", "[I", true)
  | _ => ("SoarHouse$Launches", "count", "I", false)
def tyX2 : Nat → FieldType := fun k => match k with
  | 0 => .int
  | 1 => .int
  | 2 => .int
  | 3 => .int
  | 4 => .array .int
  | 5 => .array .int
  | 6 => .array .int
  | 7 => .array .int
  | _ => .int
abbrev wsX20 : List Cond := u_ws RX2 TX2 9
theorem nmX2 : ∀ a, a < 9 → ∀ b, b < 9 → a ≠ b → (TX2 a).2.1 ≠ (TX2 b).2.1 := by decide +kernel
theorem tyX2_ok : ∀ k, k < 9 → parseFieldDescriptor (TX2 k).2.2.1 = some (tyX2 k) := by decide +kernel
abbrev cX2_init : ByteArray := prog_4_method_1_code
def yX2_init : MethodName := ⟨RX2, "<init>", "()V"⟩
abbrev cX2_equip : ByteArray := prog_4_method_2_code
def yX2_equip : MethodName := ⟨RX2, "equip", "(III)Z"⟩
abbrev cX2_isTaken : ByteArray := prog_4_method_3_code
def yX2_isTaken : MethodName := ⟨RX2, "isTaken", "(I)Z"⟩
abbrev cX2_ask : ByteArray := prog_4_method_4_code
def yX2_ask : MethodName := ⟨RX2, "ask", "(ZI)I"⟩
abbrev cX2_firstFree : ByteArray := prog_4_method_5_code
def yX2_firstFree : MethodName := ⟨RX2, "firstFree", "()I"⟩
abbrev cX2_tell : ByteArray := prog_4_method_6_code
def yX2_tell : MethodName := ⟨RX2, "tell", "(II)I"⟩
def RX3 : String := "SoarHouse$Law"
def TX3 : u_T := fun k => match k with
  | 0 => ("SoarHouse$Law", "tokens", "LSoarHouse$Tokens;", true)
  | 1 => ("SoarHouse$Law", "code", "[I", false)
  | 2 => ("SoarHouse$Law", "length", "I", false)
  | 3 => ("SoarHouse$Law", "draft", "[I", false)
  | 4 => ("SoarHouse$Law", "drafted", "I", false)
  | 5 => ("SoarHouse$Law", "units", "I", false)
  | _ => ("SoarHouse$Law", "stack", "[I", true)
def tyX3 : Nat → FieldType := fun k => match k with
  | 0 => .object "SoarHouse$Tokens"
  | 1 => .array .int
  | 2 => .int
  | 3 => .array .int
  | 4 => .int
  | 5 => .int
  | _ => .array .int
abbrev wsX30 : List Cond := u_ws RX3 TX3 7
theorem nmX3 : ∀ a, a < 7 → ∀ b, b < 7 → a ≠ b → (TX3 a).2.1 ≠ (TX3 b).2.1 := by decide +kernel
theorem tyX3_ok : ∀ k, k < 7 → parseFieldDescriptor (TX3 k).2.2.1 = some (tyX3 k) := by decide +kernel
abbrev cX3_init : ByteArray := prog_5_method_1_code
def yX3_init : MethodName := ⟨RX3, "<init>", "(LSoarHouse$Tokens;)V"⟩
abbrev cX3_read : ByteArray := prog_5_method_2_code
def yX3_read : MethodName := ⟨RX3, "read", "(I)Z"⟩
abbrev cX3_put : ByteArray := prog_5_method_3_code
def yX3_put : MethodName := ⟨RX3, "put", "(I)V"⟩
abbrev cX3_readEither : ByteArray := prog_5_method_4_code
def yX3_readEither : MethodName := ⟨RX3, "readEither", "(I)Z"⟩
abbrev cX3_readBoth : ByteArray := prog_5_method_5_code
def yX3_readBoth : MethodName := ⟨RX3, "readBoth", "(I)Z"⟩
abbrev cX3_readOne : ByteArray := prog_5_method_6_code
def yX3_readOne : MethodName := ⟨RX3, "readOne", "(I)Z"⟩
abbrev cX3_readSum : ByteArray := prog_5_method_7_code
def yX3_readSum : MethodName := ⟨RX3, "readSum", "(I)Z"⟩
abbrev cX3_readTerm : ByteArray := prog_5_method_8_code
def yX3_readTerm : MethodName := ⟨RX3, "readTerm", "(I)Z"⟩
abbrev cX3_readUnit : ByteArray := prog_5_method_9_code
def yX3_readUnit : MethodName := ⟨RX3, "readUnit", "(I)Z"⟩
abbrev cX3_asked : ByteArray := prog_5_method_10_code
def yX3_asked : MethodName := ⟨RX3, "asked", "()I"⟩
abbrev cX3_valueOf : ByteArray := prog_5_method_11_code
def yX3_valueOf : MethodName := ⟨RX3, "valueOf", "([II)I"⟩
abbrev cX3_worked : ByteArray := prog_5_method_12_code
def yX3_worked : MethodName := ⟨RX3, "worked", "(III)I"⟩
def RX4 : String := "SoarHouse$Plan"
def TX4 : u_T := fun k => match k with
  | 0 => ("SoarHouse$Plan", "grounds", "[I", true)
  | 1 => ("SoarHouse$Plan", "rowsTold", "I", false)
  | 2 => ("SoarHouse$Plan", "lifts", "[I", true)
  | 3 => ("SoarHouse$Plan", "liftsTold", "I", false)
  | 4 => ("SoarHouse$Plan", "winds", "[I", true)
  | 5 => ("SoarHouse$Plan", "tops", "[I", true)
  | 6 => ("SoarHouse$Plan", "wallRows", "[I", true)
  | 7 => ("SoarHouse$Plan", "walls", "I", false)
  | 8 => ("SoarHouse$Plan", "fields", "J", false)
  | 9 => ("SoarHouse$Plan", "roadRows", "[I", true)
  | 10 => ("SoarHouse$Plan", "roads", "I", false)
  | 11 => ("SoarHouse$Plan", "names", "[J", true)
  | 12 => ("SoarHouse$Plan", "gliderRows", "[I", true)
  | 13 => ("SoarHouse$Plan", "gliders", "I", false)
  | _ => ("SoarHouse$Plan", "lines", "I", false)
def tyX4 : Nat → FieldType := fun k => match k with
  | 0 => .array .int
  | 1 => .int
  | 2 => .array .int
  | 3 => .int
  | 4 => .array .int
  | 5 => .array .int
  | 6 => .array .int
  | 7 => .int
  | 8 => .long
  | 9 => .array .int
  | 10 => .int
  | 11 => .array .long
  | 12 => .array .int
  | 13 => .int
  | _ => .int
abbrev wsX40 : List Cond := u_ws RX4 TX4 15
theorem nmX4 : ∀ a, a < 15 → ∀ b, b < 15 → a ≠ b → (TX4 a).2.1 ≠ (TX4 b).2.1 := by decide +kernel
theorem tyX4_ok : ∀ k, k < 15 → parseFieldDescriptor (TX4 k).2.2.1 = some (tyX4 k) := by decide +kernel
abbrev cX4_init : ByteArray := prog_6_method_1_code
def yX4_init : MethodName := ⟨RX4, "<init>", "()V"⟩
abbrev cX4_clear : ByteArray := prog_6_method_2_code
def yX4_clear : MethodName := ⟨RX4, "clear", "()V"⟩
abbrev cX4_hasGlider : ByteArray := prog_6_method_3_code
def yX4_hasGlider : MethodName := ⟨RX4, "hasGlider", "(I)Z"⟩
abbrev cX4_hasName : ByteArray := prog_6_method_4_code
def yX4_hasName : MethodName := ⟨RX4, "hasName", "(J)Z"⟩
abbrev cX4_handicapOf : ByteArray := prog_6_method_5_code
def yX4_handicapOf : MethodName := ⟨RX4, "handicapOf", "(I)I"⟩
abbrev cX4_liftOf : ByteArray := prog_6_method_6_code
def yX4_liftOf : MethodName := ⟨RX4, "liftOf", "(II)I"⟩
abbrev cX4_windIn : ByteArray := prog_6_method_7_code
def yX4_windIn : MethodName := ⟨RX4, "windIn", "(I)I"⟩
abbrev cX4_topIn : ByteArray := prog_6_method_8_code
def yX4_topIn : MethodName := ⟨RX4, "topIn", "(I)I"⟩
abbrev cX4_wallHas : ByteArray := prog_6_method_9_code
def yX4_wallHas : MethodName := ⟨RX4, "wallHas", "(II)Z"⟩
abbrev cX4_wallCell : ByteArray := prog_6_method_10_code
def yX4_wallCell : MethodName := ⟨RX4, "wallCell", "(I)I"⟩
abbrev cX4_wallAbove : ByteArray := prog_6_method_11_code
def yX4_wallAbove : MethodName := ⟨RX4, "wallAbove", "(I)I"⟩
abbrev cX4_ceilingOf : ByteArray := prog_6_method_12_code
def yX4_ceilingOf : MethodName := ⟨RX4, "ceilingOf", "(II)I"⟩
abbrev cX4_gainOf : ByteArray := prog_6_method_13_code
def yX4_gainOf : MethodName := ⟨RX4, "gainOf", "(III)I"⟩
abbrev cX4_lossOf : ByteArray := prog_6_method_14_code
def yX4_lossOf : MethodName := ⟨RX4, "lossOf", "(IIII)I"⟩
abbrev cX4_moved : ByteArray := prog_6_method_15_code
def yX4_moved : MethodName := ⟨RX4, "moved", "(IIIII)I"⟩
abbrev cX4_circled : ByteArray := prog_6_method_16_code
def yX4_circled : MethodName := ⟨RX4, "circled", "(III)I"⟩
def RX5 : String := "SoarHouse$PlanReader"
def TX5 : u_T := fun k => match k with
  | 0 => ("SoarHouse$PlanReader", "tokens", "LSoarHouse$Tokens;", true)
  | _ => ("SoarHouse$PlanReader", "plan", "LSoarHouse$Plan;", false)
def tyX5 : Nat → FieldType := fun k => match k with
  | 0 => .object "SoarHouse$Tokens"
  | _ => .object "SoarHouse$Plan"
abbrev wsX50 : List Cond := u_ws RX5 TX5 2
theorem nmX5 : ∀ a, a < 2 → ∀ b, b < 2 → a ≠ b → (TX5 a).2.1 ≠ (TX5 b).2.1 := by decide +kernel
theorem tyX5_ok : ∀ k, k < 2 → parseFieldDescriptor (TX5 k).2.2.1 = some (tyX5 k) := by decide +kernel
abbrev cX5_init : ByteArray := prog_7_method_1_code
def yX5_init : MethodName := ⟨RX5, "<init>", "(LSoarHouse$Tokens;LSoarHouse$Plan;)V"⟩
abbrev cX5_read : ByteArray := prog_7_method_2_code
def yX5_read : MethodName := ⟨RX5, "read", "(LSoarHouse$Plan;I)Z"⟩
abbrev cX5_readRow : ByteArray := prog_7_method_3_code
def yX5_readRow : MethodName := ⟨RX5, "readRow", "()Z"⟩
abbrev cX5_readLift : ByteArray := prog_7_method_4_code
def yX5_readLift : MethodName := ⟨RX5, "readLift", "()Z"⟩
abbrev cX5_takeHour : ByteArray := prog_7_method_5_code
def yX5_takeHour : MethodName := ⟨RX5, "takeHour", "([I)I"⟩
abbrev cX5_readWind : ByteArray := prog_7_method_6_code
def yX5_readWind : MethodName := ⟨RX5, "readWind", "()Z"⟩
abbrev cX5_windLetter : ByteArray := prog_7_method_7_code
def yX5_windLetter : MethodName := ⟨RX5, "windLetter", "()I"⟩
abbrev cX5_readTop : ByteArray := prog_7_method_8_code
def yX5_readTop : MethodName := ⟨RX5, "readTop", "()Z"⟩
abbrev cX5_takeCell : ByteArray := prog_7_method_9_code
def yX5_takeCell : MethodName := ⟨RX5, "takeCell", "()I"⟩
abbrev cX5_takeBehind : ByteArray := prog_7_method_10_code
def yX5_takeBehind : MethodName := ⟨RX5, "takeBehind", "(III)I"⟩
abbrev cX5_readWall : ByteArray := prog_7_method_11_code
def yX5_readWall : MethodName := ⟨RX5, "readWall", "()Z"⟩
abbrev cX5_readField : ByteArray := prog_7_method_12_code
def yX5_readField : MethodName := ⟨RX5, "readField", "()Z"⟩
abbrev cX5_readRoad : ByteArray := prog_7_method_13_code
def yX5_readRoad : MethodName := ⟨RX5, "readRoad", "()Z"⟩
abbrev cX5_readGlider : ByteArray := prog_7_method_14_code
def yX5_readGlider : MethodName := ⟨RX5, "readGlider", "()Z"⟩
abbrev cX5_readSinks : ByteArray := prog_7_method_15_code
def yX5_readSinks : MethodName := ⟨RX5, "readSinks", "(I)Z"⟩
def RX6 : String := "SoarHouse$Scores"
def TX6 : u_T := fun k => match k with
  | _ => ("SoarHouse$Scores", "table", "[I", true)
def tyX6 : Nat → FieldType := fun k => match k with
  | _ => .array .int
abbrev wsX60 : List Cond := u_ws RX6 TX6 1
theorem nmX6 : ∀ a, a < 1 → ∀ b, b < 1 → a ≠ b → (TX6 a).2.1 ≠ (TX6 b).2.1 := by decide +kernel
theorem tyX6_ok : ∀ k, k < 1 → parseFieldDescriptor (TX6 k).2.2.1 = some (tyX6 k) := by decide +kernel
abbrev cX6_init : ByteArray := prog_8_method_1_code
def yX6_init : MethodName := ⟨RX6, "<init>", "()V"⟩
abbrev cX6_weigh : ByteArray := prog_8_method_2_code
def yX6_weigh : MethodName := ⟨RX6, "weigh", "(LSoarHouse$Plan;LSoarHouse$Course;LSoarHouse$Traces;LSoarHouse$Trace;I)V"⟩
abbrev cX6_scoreOf : ByteArray := prog_8_method_3_code
def yX6_scoreOf : MethodName := ⟨RX6, "scoreOf", "(LSoarHouse$Law;I)I"⟩
abbrev cX6_rankOf : ByteArray := prog_8_method_4_code
def yX6_rankOf : MethodName := ⟨RX6, "rankOf", "(LSoarHouse$Law;II)I"⟩
def RX7 : String := "SoarHouse$Tokens"
def TX7 : u_T := fun k => match k with
  | 0 => ("SoarHouse$Tokens", "text", "[I", true)
  | 1 => ("SoarHouse$Tokens", "length", "I", false)
  | 2 => ("SoarHouse$Tokens", "at", "I", false)
  | 3 => ("SoarHouse$Tokens", "kind", "I", false)
  | 4 => ("SoarHouse$Tokens", "start", "I", false)
  | 5 => ("SoarHouse$Tokens", "value", "I", false)
  | 6 => ("SoarHouse$Tokens", "takenAt", "I", false)
  | 7 => ("SoarHouse$Tokens", "fault", "I", false)
  | _ => ("SoarHouse$Tokens", "faultPlace", "I", false)
def tyX7 : Nat → FieldType := fun k => match k with
  | 0 => .array .int
  | 1 => .int
  | 2 => .int
  | 3 => .int
  | 4 => .int
  | 5 => .int
  | 6 => .int
  | 7 => .int
  | _ => .int
abbrev wsX70 : List Cond := u_ws RX7 TX7 9
theorem nmX7 : ∀ a, a < 9 → ∀ b, b < 9 → a ≠ b → (TX7 a).2.1 ≠ (TX7 b).2.1 := by decide +kernel
theorem tyX7_ok : ∀ k, k < 9 → parseFieldDescriptor (TX7 k).2.2.1 = some (tyX7 k) := by decide +kernel
abbrev cX7_init : ByteArray := prog_9_method_1_code
def yX7_init : MethodName := ⟨RX7, "<init>", "([I)V"⟩
abbrev cX7_open : ByteArray := prog_9_method_2_code
def yX7_open : MethodName := ⟨RX7, "open", "(I)V"⟩
abbrev cX7_pass : ByteArray := prog_9_method_3_code
def yX7_pass : MethodName := ⟨RX7, "pass", "()V"⟩
abbrev cX7_runOf : ByteArray := prog_9_method_4_code
def yX7_runOf : MethodName := ⟨RX7, "runOf", "(CC)I"⟩
abbrev cX7_numberRead : ByteArray := prog_9_method_5_code
def yX7_numberRead : MethodName := ⟨RX7, "numberRead", "()I"⟩
abbrev cX7_knownWord : ByteArray := prog_9_method_6_code
def yX7_knownWord : MethodName := ⟨RX7, "knownWord", "()I"⟩
abbrev cX7_packedWord : ByteArray := prog_9_method_7_code
def yX7_packedWord : MethodName := ⟨RX7, "packedWord", "()J"⟩
abbrev cX7_wordLength : ByteArray := prog_9_method_8_code
def yX7_wordLength : MethodName := ⟨RX7, "wordLength", "()I"⟩
abbrev cX7_letterOfWord : ByteArray := prog_9_method_9_code
def yX7_letterOfWord : MethodName := ⟨RX7, "letterOfWord", "(I)I"⟩
abbrev cX7_isSign : ByteArray := prog_9_method_10_code
def yX7_isSign : MethodName := ⟨RX7, "isSign", "(C)Z"⟩
abbrev cX7_isWord : ByteArray := prog_9_method_11_code
def yX7_isWord : MethodName := ⟨RX7, "isWord", "(I)Z"⟩
abbrev cX7_takeSign : ByteArray := prog_9_method_12_code
def yX7_takeSign : MethodName := ⟨RX7, "takeSign", "(C)Z"⟩
abbrev cX7_takeWord : ByteArray := prog_9_method_13_code
def yX7_takeWord : MethodName := ⟨RX7, "takeWord", "(I)Z"⟩
abbrev cX7_takeNumber : ByteArray := prog_9_method_14_code
def yX7_takeNumber : MethodName := ⟨RX7, "takeNumber", "(II)I"⟩
abbrev cX7_refuse : ByteArray := prog_9_method_15_code
def yX7_refuse : MethodName := ⟨RX7, "refuse", "(I)Z"⟩
abbrev cX7_refuseTaken : ByteArray := prog_9_method_16_code
def yX7_refuseTaken : MethodName := ⟨RX7, "refuseTaken", "(I)Z"⟩
def RX8 : String := "SoarHouse$Trace"
def TX8 : u_T := fun k => match k with
  | 0 => ("SoarHouse$Trace", "lastOf", "[I", true)
  | 1 => ("SoarHouse$Trace", "steps", "[I", true)
  | 2 => ("SoarHouse$Trace", "cells", "[I", true)
  | 3 => ("SoarHouse$Trace", "heights", "[I", true)
  | 4 => ("SoarHouse$Trace", "count", "I", false)
  | 5 => ("SoarHouse$Trace", "rounded", "I", false)
  | _ => ("SoarHouse$Trace", "roundedBy", "I", false)
def tyX8 : Nat → FieldType := fun k => match k with
  | 0 => .array .int
  | 1 => .array .int
  | 2 => .array .int
  | 3 => .array .int
  | 4 => .int
  | 5 => .int
  | _ => .int
abbrev wsX80 : List Cond := u_ws RX8 TX8 7
theorem nmX8 : ∀ a, a < 7 → ∀ b, b < 7 → a ≠ b → (TX8 a).2.1 ≠ (TX8 b).2.1 := by decide +kernel
theorem tyX8_ok : ∀ k, k < 7 → parseFieldDescriptor (TX8 k).2.2.1 = some (tyX8 k) := by decide +kernel
abbrev cX8_init : ByteArray := prog_10_method_1_code
def yX8_init : MethodName := ⟨RX8, "<init>", "()V"⟩
abbrev cX8_gather : ByteArray := prog_10_method_2_code
def yX8_gather : MethodName := ⟨RX8, "gather", "(LSoarHouse$Traces;II)V"⟩
abbrev cX8_roundedAt : ByteArray := prog_10_method_3_code
def yX8_roundedAt : MethodName := ⟨RX8, "roundedAt", "(LSoarHouse$Course;II)I"⟩
abbrev cX8_roundLeast : ByteArray := prog_10_method_4_code
def yX8_roundLeast : MethodName := ⟨RX8, "roundLeast", "(LSoarHouse$Course;)V"⟩
abbrev cX8_mostRounded : ByteArray := prog_10_method_5_code
def yX8_mostRounded : MethodName := ⟨RX8, "mostRounded", "(LSoarHouse$Course;)I"⟩
abbrev cX8_canRoundBehind : ByteArray := prog_10_method_6_code
def yX8_canRoundBehind : MethodName := ⟨RX8, "canRoundBehind", "(LSoarHouse$Course;II)Z"⟩
abbrev cX8_timeOn : ByteArray := prog_10_method_7_code
def yX8_timeOn : MethodName := ⟨RX8, "timeOn", "(LSoarHouse$Course;)I"⟩
abbrev cX8_hasAll : ByteArray := prog_10_method_8_code
def yX8_hasAll : MethodName := ⟨RX8, "hasAll", "(LSoarHouse$Course;)Z"⟩
abbrev cX8_legOf : ByteArray := prog_10_method_9_code
def yX8_legOf : MethodName := ⟨RX8, "legOf", "(LSoarHouse$Course;I)I"⟩
abbrev cX8_legsOf : ByteArray := prog_10_method_10_code
def yX8_legsOf : MethodName := ⟨RX8, "legsOf", "(LSoarHouse$Course;)I"⟩
abbrev cX8_legsUpTo : ByteArray := prog_10_method_11_code
def yX8_legsUpTo : MethodName := ⟨RX8, "legsUpTo", "(LSoarHouse$Course;I)I"⟩
abbrev cX8_doneOn : ByteArray := prog_10_method_12_code
def yX8_doneOn : MethodName := ⟨RX8, "doneOn", "(LSoarHouse$Course;)I"⟩
abbrev cX8_wallsForSure : ByteArray := prog_10_method_13_code
def yX8_wallsForSure : MethodName := ⟨RX8, "wallsForSure", "(LSoarHouse$Plan;)I"⟩
abbrev cX8_wallsMaybe : ByteArray := prog_10_method_14_code
def yX8_wallsMaybe : MethodName := ⟨RX8, "wallsMaybe", "(LSoarHouse$Plan;)I"⟩
abbrev cX8_canEnterBehind : ByteArray := prog_10_method_15_code
def yX8_canEnterBehind : MethodName := ⟨RX8, "canEnterBehind", "(LSoarHouse$Plan;II)Z"⟩
def RX9 : String := "SoarHouse$Traces"
def TX9 : u_T := fun k => match k with
  | 0 => ("SoarHouse$Traces", "gliders", "[I", true)
  | 1 => ("SoarHouse$Traces", "pilots", "I", false)
  | 2 => ("SoarHouse$Traces", "pilotOf", "[I", true)
  | 3 => ("SoarHouse$Traces", "steps", "[I", true)
  | 4 => ("SoarHouse$Traces", "cells", "[I", true)
  | 5 => ("SoarHouse$Traces", "heights", "[I", true)
  | 6 => ("SoarHouse$Traces", "told", "[I", true)
  | 7 => ("SoarHouse$Traces", "untold", "[I", true)
  | 8 => ("SoarHouse$Traces", "fixes", "I", false)
  | _ => ("SoarHouse$Traces", "time", "I", false)
def tyX9 : Nat → FieldType := fun k => match k with
  | 0 => .array .int
  | 1 => .int
  | 2 => .array .int
  | 3 => .array .int
  | 4 => .array .int
  | 5 => .array .int
  | 6 => .array .int
  | 7 => .array .int
  | 8 => .int
  | _ => .int
abbrev wsX90 : List Cond := u_ws RX9 TX9 10
theorem nmX9 : ∀ a, a < 10 → ∀ b, b < 10 → a ≠ b → (TX9 a).2.1 ≠ (TX9 b).2.1 := by decide +kernel
theorem tyX9_ok : ∀ k, k < 10 → parseFieldDescriptor (TX9 k).2.2.1 = some (tyX9 k) := by decide +kernel
abbrev cX9_init : ByteArray := prog_11_method_1_code
def yX9_init : MethodName := ⟨RX9, "<init>", "()V"⟩
abbrev cX9_clear : ByteArray := prog_11_method_2_code
def yX9_clear : MethodName := ⟨RX9, "clear", "()V"⟩
abbrev cX9_hasPilot : ByteArray := prog_11_method_3_code
def yX9_hasPilot : MethodName := ⟨RX9, "hasPilot", "(I)Z"⟩
abbrev cX9_addPilot : ByteArray := prog_11_method_4_code
def yX9_addPilot : MethodName := ⟨RX9, "addPilot", "(I)I"⟩
abbrev cX9_addFix : ByteArray := prog_11_method_5_code
def yX9_addFix : MethodName := ⟨RX9, "addFix", "(IIII)I"⟩
abbrev cX9_takeBack : ByteArray := prog_11_method_6_code
def yX9_takeBack : MethodName := ⟨RX9, "takeBack", "(I)Z"⟩
abbrev cX9_goOn : ByteArray := prog_11_method_7_code
def yX9_goOn : MethodName := ⟨RX9, "goOn", "(I)I"⟩
abbrev cX9_counts : ByteArray := prog_11_method_8_code
def yX9_counts : MethodName := ⟨RX9, "counts", "(II)Z"⟩
def RX10 : String := "SoarHouse$Trailers"
def TX10 : u_T := fun k => match k with
  | 0 => ("SoarHouse$Trailers", "cells", "[I", true)
  | 1 => ("SoarHouse$Trailers", "count", "I", false)
  | 2 => ("SoarHouse$Trailers", "distances", "[I", true)
  | 3 => ("SoarHouse$Trailers", "loads", "[I", true)
  | 4 => ("SoarHouse$Trailers", "tried", "[I", true)
  | 5 => ("SoarHouse$Trailers", "chosen", "[I", true)
  | _ => ("SoarHouse$Trailers", "best", "I", false)
def tyX10 : Nat → FieldType := fun k => match k with
  | 0 => .array .int
  | 1 => .int
  | 2 => .array .int
  | 3 => .array .int
  | 4 => .array .int
  | 5 => .array .int
  | _ => .int
abbrev wsX100 : List Cond := u_ws RX10 TX10 7
theorem nmX10 : ∀ a, a < 7 → ∀ b, b < 7 → a ≠ b → (TX10 a).2.1 ≠ (TX10 b).2.1 := by decide +kernel
theorem tyX10_ok : ∀ k, k < 7 → parseFieldDescriptor (TX10 k).2.2.1 = some (tyX10 k) := by decide +kernel
abbrev cX10_init : ByteArray := prog_12_method_1_code
def yX10_init : MethodName := ⟨RX10, "<init>", "()V"⟩
abbrev cX10_clear : ByteArray := prog_12_method_2_code
def yX10_clear : MethodName := ⟨RX10, "clear", "()I"⟩
abbrev cX10_lay : ByteArray := prog_12_method_3_code
def yX10_lay : MethodName := ⟨RX10, "lay", "(I)I"⟩
abbrev cX10_minutesBetween : ByteArray := prog_12_method_4_code
def yX10_minutesBetween : MethodName := ⟨RX10, "minutesBetween", "(LSoarHouse$Plan;II)I"⟩
abbrev cX10_measure : ByteArray := prog_12_method_5_code
def yX10_measure : MethodName := ⟨RX10, "measure", "(LSoarHouse$Plan;I)V"⟩
abbrev cX10_share : ByteArray := prog_12_method_6_code
def yX10_share : MethodName := ⟨RX10, "share", "(LSoarHouse$Plan;II)Z"⟩
abbrev cX10_give : ByteArray := prog_12_method_7_code
def yX10_give : MethodName := ⟨RX10, "give", "(III)V"⟩
def RX11 : String := "SoarHouse"
def TX11 : u_T := fun k => match k with
  | 0 => ("SoarHouse", "tape", "[I", true)
  | 1 => ("SoarHouse", "bytes", "I", false)
  | 2 => ("SoarHouse", "tokens", "LSoarHouse$Tokens;", true)
  | 3 => ("SoarHouse", "plan", "LSoarHouse$Plan;", false)
  | 4 => ("SoarHouse", "spare", "LSoarHouse$Plan;", false)
  | 5 => ("SoarHouse", "planReader", "LSoarHouse$PlanReader;", true)
  | 6 => ("SoarHouse", "law", "LSoarHouse$Law;", true)
  | 7 => ("SoarHouse", "faultNumber", "I", false)
  | 8 => ("SoarHouse", "faultPlace", "I", false)
  | 9 => ("SoarHouse", "course", "LSoarHouse$Course;", true)
  | 10 => ("SoarHouse", "flight", "LSoarHouse$Flight;", true)
  | 11 => ("SoarHouse", "launches", "LSoarHouse$Launches;", true)
  | 12 => ("SoarHouse", "traces", "LSoarHouse$Traces;", true)
  | 13 => ("SoarHouse", "trace", "LSoarHouse$Trace;", true)
  | 14 => ("SoarHouse", "scores", "LSoarHouse$Scores;", true)
  | _ => ("SoarHouse", "trailers", "LSoarHouse$Trailers;", true)
def tyX11 : Nat → FieldType := fun k => match k with
  | 0 => .array .int
  | 1 => .int
  | 2 => .object "SoarHouse$Tokens"
  | 3 => .object "SoarHouse$Plan"
  | 4 => .object "SoarHouse$Plan"
  | 5 => .object "SoarHouse$PlanReader"
  | 6 => .object "SoarHouse$Law"
  | 7 => .int
  | 8 => .int
  | 9 => .object "SoarHouse$Course"
  | 10 => .object "SoarHouse$Flight"
  | 11 => .object "SoarHouse$Launches"
  | 12 => .object "SoarHouse$Traces"
  | 13 => .object "SoarHouse$Trace"
  | 14 => .object "SoarHouse$Scores"
  | _ => .object "SoarHouse$Trailers"
abbrev wsX110 : List Cond := u_ws RX11 TX11 16
theorem nmX11 : ∀ a, a < 16 → ∀ b, b < 16 → a ≠ b → (TX11 a).2.1 ≠ (TX11 b).2.1 := by decide +kernel
theorem tyX11_ok : ∀ k, k < 16 → parseFieldDescriptor (TX11 k).2.2.1 = some (tyX11 k) := by decide +kernel
abbrev cX11_init : ByteArray := prog_1_method_1_code
def yX11_init : MethodName := ⟨RX11, "<init>", "()V"⟩
abbrev cX11_feed : ByteArray := prog_1_method_2_code
def yX11_feed : MethodName := ⟨RX11, "feed", "(IIIII)I"⟩
abbrev cX11_end : ByteArray := prog_1_method_3_code
def yX11_end : MethodName := ⟨RX11, "end", "(I)I"⟩
abbrev cX11_map : ByteArray := prog_1_method_4_code
def yX11_map : MethodName := ⟨RX11, "map", "()I"⟩
abbrev cX11_law : ByteArray := prog_1_method_5_code
def yX11_law : MethodName := ⟨RX11, "law", "()I"⟩
abbrev cX11_fault : ByteArray := prog_1_method_6_code
def yX11_fault : MethodName := ⟨RX11, "fault", "(I)I"⟩
abbrev cX11_lift : ByteArray := prog_1_method_7_code
def yX11_lift : MethodName := ⟨RX11, "lift", "(II)I"⟩
abbrev cX11_wind : ByteArray := prog_1_method_8_code
def yX11_wind : MethodName := ⟨RX11, "wind", "(I)I"⟩
abbrev cX11_top : ByteArray := prog_1_method_9_code
def yX11_top : MethodName := ⟨RX11, "top", "(I)I"⟩
abbrev cX11_shut : ByteArray := prog_1_method_10_code
def yX11_shut : MethodName := ⟨RX11, "shut", "(III)I"⟩
abbrev cX11_move : ByteArray := prog_1_method_11_code
def yX11_move : MethodName := ⟨RX11, "move", "(IIIII)I"⟩
abbrev cX11_task : ByteArray := prog_1_method_12_code
def yX11_task : MethodName := ⟨RX11, "task", "(IIII)Z"⟩
abbrev cX11_soonest : ByteArray := prog_1_method_13_code
def yX11_soonest : MethodName := ⟨RX11, "soonest", "(IIIII)I"⟩
abbrev cX11_way : ByteArray := prog_1_method_14_code
def yX11_way : MethodName := ⟨RX11, "way", "(IIIIII)I"⟩
abbrev cX11_safe : ByteArray := prog_1_method_15_code
def yX11_safe : MethodName := ⟨RX11, "safe", "(IIII)I"⟩
abbrev cX11_field : ByteArray := prog_1_method_16_code
def yX11_field : MethodName := ⟨RX11, "field", "(III)Z"⟩
abbrev cX11_launch : ByteArray := prog_1_method_17_code
def yX11_launch : MethodName := ⟨RX11, "launch", "(ZI)I"⟩
abbrev cX11_launched : ByteArray := prog_1_method_18_code
def yX11_launched : MethodName := ⟨RX11, "launched", "(II)I"⟩
abbrev cX11_pilot : ByteArray := prog_1_method_19_code
def yX11_pilot : MethodName := ⟨RX11, "pilot", "(I)I"⟩
abbrev cX11_fix : ByteArray := prog_1_method_20_code
def yX11_fix : MethodName := ⟨RX11, "fix", "(IIII)I"⟩
abbrev cX11_untell : ByteArray := prog_1_method_21_code
def yX11_untell : MethodName := ⟨RX11, "untell", "(I)Z"⟩
abbrev cX11_later : ByteArray := prog_1_method_22_code
def yX11_later : MethodName := ⟨RX11, "later", "(I)I"⟩
abbrev cX11_zone : ByteArray := prog_1_method_23_code
def yX11_zone : MethodName := ⟨RX11, "zone", "(I)Z"⟩
abbrev cX11_rounded : ByteArray := prog_1_method_24_code
def yX11_rounded : MethodName := ⟨RX11, "rounded", "(IZI)I"⟩
abbrev cX11_flown : ByteArray := prog_1_method_25_code
def yX11_flown : MethodName := ⟨RX11, "flown", "(III)I"⟩
abbrev cX11_score : ByteArray := prog_1_method_26_code
def yX11_score : MethodName := ⟨RX11, "score", "(II)I"⟩
abbrev cX11_rank : ByteArray := prog_1_method_27_code
def yX11_rank : MethodName := ⟨RX11, "rank", "(II)I"⟩
abbrev cX11_out : ByteArray := prog_1_method_28_code
def yX11_out : MethodName := ⟨RX11, "out", "(I)I"⟩
abbrev cX11_fetched : ByteArray := prog_1_method_29_code
def yX11_fetched : MethodName := ⟨RX11, "fetched", "()I"⟩
abbrev cX11_minutes : ByteArray := prog_1_method_30_code
def yX11_minutes : MethodName := ⟨RX11, "minutes", "(II)I"⟩
abbrev cX11_home : ByteArray := prog_1_method_31_code
def yX11_home : MethodName := ⟨RX11, "home", "(II)I"⟩
abbrev cX11_trailer : ByteArray := prog_1_method_32_code
def yX11_trailer : MethodName := ⟨RX11, "trailer", "(III)I"⟩
abbrev cX11_about : ByteArray := prog_1_method_33_code
def yX11_about : MethodName := ⟨RX11, "about", "(I)I"⟩
abbrev cX11_putFour : ByteArray := prog_1_method_34_code
def yX11_putFour : MethodName := ⟨RX11, "putFour", "(I)V"⟩
abbrev cX11_keepFault : ByteArray := prog_1_method_35_code
def yX11_keepFault : MethodName := ⟨RX11, "keepFault", "()V"⟩
abbrev cX11_canBegin : ByteArray := prog_1_method_36_code
def yX11_canBegin : MethodName := ⟨RX11, "canBegin", "(IIII)Z"⟩
abbrev cX11_fly : ByteArray := prog_1_method_37_code
def yX11_fly : MethodName := ⟨RX11, "fly", "(IIIII)Z"⟩
abbrev cX11_canJudge : ByteArray := prog_1_method_38_code
def yX11_canJudge : MethodName := ⟨RX11, "canJudge", "(I)Z"⟩
abbrev cX11_bringHome : ByteArray := prog_1_method_39_code
def yX11_bringHome : MethodName := ⟨RX11, "bringHome", "(II)Z"⟩
abbrev cX11_isCell : ByteArray := prog_1_method_40_code
def yX11_isCell : MethodName := ⟨RX11, "isCell", "(I)Z"⟩
abbrev cX11_isHour : ByteArray := prog_1_method_41_code
def yX11_isHour : MethodName := ⟨RX11, "isHour", "(I)Z"⟩
abbrev cX11_isHeight : ByteArray := prog_1_method_42_code
def yX11_isHeight : MethodName := ⟨RX11, "isHeight", "(I)Z"⟩
abbrev cX11_isPlace : ByteArray := prog_1_method_43_code
def yX11_isPlace : MethodName := ⟨RX11, "isPlace", "(III)Z"⟩
abbrev cX11_neighbour : ByteArray := prog_1_method_44_code
def yX11_neighbour : MethodName := ⟨RX11, "neighbour", "(II)I"⟩
abbrev cX11_apart : ByteArray := prog_1_method_45_code
def yX11_apart : MethodName := ⟨RX11, "apart", "(II)I"⟩
def RX12 : String := "SoarHouseModel"
def TX12 : u_T := fun k => match k with
  | 0 => ("SoarHouseModel", "tape", "[B", true)
  | 1 => ("SoarHouseModel", "text", "[B", true)
  | 2 => ("SoarHouseModel", "taped", "I", false)
  | 3 => ("SoarHouseModel", "size", "I", false)
  | 4 => ("SoarHouseModel", "faultKind", "I", false)
  | 5 => ("SoarHouseModel", "faultPlace", "I", false)
  | 6 => ("SoarHouseModel", "at", "I", false)
  | 7 => ("SoarHouseModel", "end", "I", false)
  | 8 => ("SoarHouseModel", "token", "I", false)
  | 9 => ("SoarHouseModel", "number", "I", false)
  | 10 => ("SoarHouseModel", "name", "J", false)
  | 11 => ("SoarHouseModel", "lineMany", "[I", true)
  | 12 => ("SoarHouseModel", "wallMany", "[I", true)
  | 13 => ("SoarHouseModel", "fieldMany", "[I", true)
  | 14 => ("SoarHouseModel", "roadMany", "[I", true)
  | 15 => ("SoarHouseModel", "gliderMany", "[I", true)
  | 16 => ("SoarHouseModel", "ground", "[I", true)
  | 17 => ("SoarHouseModel", "lifts", "[I", true)
  | 18 => ("SoarHouseModel", "windWay", "[I", true)
  | 19 => ("SoarHouseModel", "windForce", "[I", true)
  | 20 => ("SoarHouseModel", "tops", "[I", true)
  | 21 => ("SoarHouseModel", "wCell", "[I", true)
  | 22 => ("SoarHouseModel", "wAbove", "[I", true)
  | 23 => ("SoarHouseModel", "wFrom", "[I", true)
  | 24 => ("SoarHouseModel", "wTo", "[I", true)
  | 25 => ("SoarHouseModel", "rA", "[I", true)
  | 26 => ("SoarHouseModel", "rB", "[I", true)
  | 27 => ("SoarHouseModel", "rMinutes", "[I", true)
  | 28 => ("SoarHouseModel", "sinks", "[I", true)
  | 29 => ("SoarHouseModel", "handicaps", "[I", true)
  | 30 => ("SoarHouseModel", "gName", "[J", true)
  | 31 => ("SoarHouseModel", "hasRow", "[Z", true)
  | 32 => ("SoarHouseModel", "hasLift", "[Z", true)
  | 33 => ("SoarHouseModel", "isField", "[Z", true)
  | 34 => ("SoarHouseModel", "bank", "I", false)
  | 35 => ("SoarHouseModel", "rb", "I", false)
  | 36 => ("SoarHouseModel", "toCell", "I", false)
  | 37 => ("SoarHouseModel", "toMoment", "I", false)
  | 38 => ("SoarHouseModel", "toHeight", "I", false)
  | 39 => ("SoarHouseModel", "points", "[I", true)
  | 40 => ("SoarHouseModel", "pointMany", "I", false)
  | 41 => ("SoarHouseModel", "hasTask", "Z", false)
  | 42 => ("SoarHouseModel", "ends", "[I", true)
  | 43 => ("SoarHouseModel", "endsGlider", "I", false)
  | 44 => ("SoarHouseModel", "endsFinish", "I", false)
  | 45 => ("SoarHouseModel", "moves", "[I", true)
  | 46 => ("SoarHouseModel", "moveMany", "I", false)
  | 47 => ("SoarHouseModel", "canBe", "[Z", true)
  | 48 => ("SoarHouseModel", "uAsked", "[I", true)
  | 49 => ("SoarHouseModel", "uBegins", "[I", true)
  | 50 => ("SoarHouseModel", "uPlane", "[I", true)
  | 51 => ("SoarHouseModel", "isTow", "[Z", true)
  | 52 => ("SoarHouseModel", "launches", "I", false)
  | 53 => ("SoarHouseModel", "winch", "I", false)
  | 54 => ("SoarHouseModel", "planes", "I", false)
  | 55 => ("SoarHouseModel", "tow", "I", false)
  | 56 => ("SoarHouseModel", "freeAt", "[I", true)
  | 57 => ("SoarHouseModel", "pGlider", "[I", true)
  | 58 => ("SoarHouseModel", "fPilot", "[I", true)
  | 59 => ("SoarHouseModel", "fStep", "[I", true)
  | 60 => ("SoarHouseModel", "fCell", "[I", true)
  | 61 => ("SoarHouseModel", "fHeight", "[I", true)
  | 62 => ("SoarHouseModel", "fTold", "[I", true)
  | 63 => ("SoarHouseModel", "fUntold", "[I", true)
  | 64 => ("SoarHouseModel", "pilots", "I", false)
  | 65 => ("SoarHouseModel", "fixes", "I", false)
  | 66 => ("SoarHouseModel", "time", "I", false)
  | 67 => ("SoarHouseModel", "zone", "I", false)
  | 68 => ("SoarHouseModel", "nStep", "[I", true)
  | 69 => ("SoarHouseModel", "nCell", "[I", true)
  | 70 => ("SoarHouseModel", "nHeight", "[I", true)
  | 71 => ("SoarHouseModel", "onStep", "[I", true)
  | 72 => ("SoarHouseModel", "many", "I", false)
  | 73 => ("SoarHouseModel", "byFix", "[I", true)
  | 74 => ("SoarHouseModel", "code", "[I", true)
  | 75 => ("SoarHouseModel", "codeNumber", "[I", true)
  | 76 => ("SoarHouseModel", "codes", "[I", true)
  | 77 => ("SoarHouseModel", "eWhat", "[I", true)
  | 78 => ("SoarHouseModel", "eSign", "[I", true)
  | 79 => ("SoarHouseModel", "pile", "[I", true)
  | 80 => ("SoarHouseModel", "lawBank", "I", false)
  | 81 => ("SoarHouseModel", "lb", "I", false)
  | 82 => ("SoarHouseModel", "units", "I", false)
  | 83 => ("SoarHouseModel", "deep", "I", false)
  | 84 => ("SoarHouseModel", "piled", "I", false)
  | 85 => ("SoarHouseModel", "hasLaw", "Z", false)
  | 86 => ("SoarHouseModel", "qDone", "I", false)
  | 87 => ("SoarHouseModel", "qLegs", "I", false)
  | 88 => ("SoarHouseModel", "qTime", "I", false)
  | 89 => ("SoarHouseModel", "qHandicap", "I", false)
  | 90 => ("SoarHouseModel", "qBest", "I", false)
  | 91 => ("SoarHouseModel", "qFirst", "I", false)
  | 92 => ("SoarHouseModel", "qWalls", "I", false)
  | 93 => ("SoarHouseModel", "qRounded", "I", false)
  | 94 => ("SoarHouseModel", "far", "[I", true)
  | 95 => ("SoarHouseModel", "outCell", "[I", true)
  | 96 => ("SoarHouseModel", "fetcher", "[I", true)
  | 97 => ("SoarHouseModel", "tried", "[I", true)
  | 98 => ("SoarHouseModel", "load", "[I", true)
  | _ => ("SoarHouseModel", "outs", "I", false)
def tyX12 : Nat → FieldType := fun k => match k with
  | 0 => .array .byte
  | 1 => .array .byte
  | 2 => .int
  | 3 => .int
  | 4 => .int
  | 5 => .int
  | 6 => .int
  | 7 => .int
  | 8 => .int
  | 9 => .int
  | 10 => .long
  | 11 => .array .int
  | 12 => .array .int
  | 13 => .array .int
  | 14 => .array .int
  | 15 => .array .int
  | 16 => .array .int
  | 17 => .array .int
  | 18 => .array .int
  | 19 => .array .int
  | 20 => .array .int
  | 21 => .array .int
  | 22 => .array .int
  | 23 => .array .int
  | 24 => .array .int
  | 25 => .array .int
  | 26 => .array .int
  | 27 => .array .int
  | 28 => .array .int
  | 29 => .array .int
  | 30 => .array .long
  | 31 => .array .boolean
  | 32 => .array .boolean
  | 33 => .array .boolean
  | 34 => .int
  | 35 => .int
  | 36 => .int
  | 37 => .int
  | 38 => .int
  | 39 => .array .int
  | 40 => .int
  | 41 => .boolean
  | 42 => .array .int
  | 43 => .int
  | 44 => .int
  | 45 => .array .int
  | 46 => .int
  | 47 => .array .boolean
  | 48 => .array .int
  | 49 => .array .int
  | 50 => .array .int
  | 51 => .array .boolean
  | 52 => .int
  | 53 => .int
  | 54 => .int
  | 55 => .int
  | 56 => .array .int
  | 57 => .array .int
  | 58 => .array .int
  | 59 => .array .int
  | 60 => .array .int
  | 61 => .array .int
  | 62 => .array .int
  | 63 => .array .int
  | 64 => .int
  | 65 => .int
  | 66 => .int
  | 67 => .int
  | 68 => .array .int
  | 69 => .array .int
  | 70 => .array .int
  | 71 => .array .int
  | 72 => .int
  | 73 => .array .int
  | 74 => .array .int
  | 75 => .array .int
  | 76 => .array .int
  | 77 => .array .int
  | 78 => .array .int
  | 79 => .array .int
  | 80 => .int
  | 81 => .int
  | 82 => .int
  | 83 => .int
  | 84 => .int
  | 85 => .boolean
  | 86 => .int
  | 87 => .int
  | 88 => .int
  | 89 => .int
  | 90 => .int
  | 91 => .int
  | 92 => .int
  | 93 => .int
  | 94 => .array .int
  | 95 => .array .int
  | 96 => .array .int
  | 97 => .array .int
  | 98 => .array .int
  | _ => .int
abbrev wsX120 : List Cond := u_ws RX12 TX12 100
theorem nmX12 : ∀ a, a < 100 → ∀ b, b < 100 → a ≠ b → (TX12 a).2.1 ≠ (TX12 b).2.1 := by decide +kernel
theorem tyX12_ok : ∀ k, k < 100 → parseFieldDescriptor (TX12 k).2.2.1 = some (tyX12 k) := by decide +kernel
abbrev cX12_sign : ByteArray := prog_14_method_1_code
def yX12_sign : MethodName := ⟨RX12, "sign", "(I)I"⟩
abbrev cX12_isLetter : ByteArray := prog_14_method_2_code
def yX12_isLetter : MethodName := ⟨RX12, "isLetter", "(I)Z"⟩
abbrev cX12_isDigit : ByteArray := prog_14_method_3_code
def yX12_isDigit : MethodName := ⟨RX12, "isDigit", "(I)Z"⟩
abbrev cX12_fails : ByteArray := prog_14_method_4_code
def yX12_fails : MethodName := ⟨RX12, "fails", "(II)V"⟩
abbrev cX12_isGood : ByteArray := prog_14_method_5_code
def yX12_isGood : MethodName := ⟨RX12, "isGood", "()Z"⟩
abbrev cX12_isKept : ByteArray := prog_14_method_6_code
def yX12_isKept : MethodName := ⟨RX12, "isKept", "(J)Z"⟩
abbrev cX12_isSign : ByteArray := prog_14_method_7_code
def yX12_isSign : MethodName := ⟨RX12, "isSign", "(I)Z"⟩
abbrev cX12_next : ByteArray := prog_14_method_8_code
def yX12_next : MethodName := ⟨RX12, "next", "()V"⟩
abbrev cX12_is : ByteArray := prog_14_method_9_code
def yX12_is : MethodName := ⟨RX12, "is", "(I)Z"⟩
abbrev cX12_isWord : ByteArray := prog_14_method_10_code
def yX12_isWord : MethodName := ⟨RX12, "isWord", "(J)Z"⟩
abbrev cX12_wrong : ByteArray := prog_14_method_11_code
def yX12_wrong : MethodName := ⟨RX12, "wrong", "()V"⟩
abbrev cX12_must : ByteArray := prog_14_method_12_code
def yX12_must : MethodName := ⟨RX12, "must", "(Z)V"⟩
abbrev cX12_numeral : ByteArray := prog_14_method_13_code
def yX12_numeral : MethodName := ⟨RX12, "numeral", "(II)I"⟩
abbrev cX12_takeTape : ByteArray := prog_14_method_14_code
def yX12_takeTape : MethodName := ⟨RX12, "takeTape", "()V"⟩
abbrev cX12_beginMap : ByteArray := prog_14_method_15_code
def yX12_beginMap : MethodName := ⟨RX12, "beginMap", "()V"⟩
abbrev cX12_init : ByteArray := prog_14_method_16_code
def yX12_init : MethodName := ⟨RX12, "<init>", "()V"⟩
abbrev cX12_map : ByteArray := prog_14_method_17_code
def yX12_map : MethodName := ⟨RX12, "map", "()I"⟩
abbrev cX12_readLine : ByteArray := prog_14_method_18_code
def yX12_readLine : MethodName := ⟨RX12, "readLine", "()V"⟩
abbrev cX12_fresh : ByteArray := prog_14_method_19_code
def yX12_fresh : MethodName := ⟨RX12, "fresh", "(I[Z)I"⟩
abbrev cX12_isGround : ByteArray := prog_14_method_20_code
def yX12_isGround : MethodName := ⟨RX12, "isGround", "(I)Z"⟩
abbrev cX12_isGrounds : ByteArray := prog_14_method_21_code
def yX12_isGrounds : MethodName := ⟨RX12, "isGrounds", "(I)Z"⟩
abbrev cX12_readRow : ByteArray := prog_14_method_22_code
def yX12_readRow : MethodName := ⟨RX12, "readRow", "()V"⟩
abbrev cX12_readLift : ByteArray := prog_14_method_23_code
def yX12_readLift : MethodName := ⟨RX12, "readLift", "()V"⟩
abbrev cX12_hourFor : ByteArray := prog_14_method_24_code
def yX12_hourFor : MethodName := ⟨RX12, "hourFor", "([I)I"⟩
abbrev cX12_readWind : ByteArray := prog_14_method_25_code
def yX12_readWind : MethodName := ⟨RX12, "readWind", "()V"⟩
abbrev cX12_readTop : ByteArray := prog_14_method_26_code
def yX12_readTop : MethodName := ⟨RX12, "readTop", "()V"⟩
abbrev cX12_cell : ByteArray := prog_14_method_27_code
def yX12_cell : MethodName := ⟨RX12, "cell", "()I"⟩
abbrev cX12_readWall : ByteArray := prog_14_method_28_code
def yX12_readWall : MethodName := ⟨RX12, "readWall", "()V"⟩
abbrev cX12_readField : ByteArray := prog_14_method_29_code
def yX12_readField : MethodName := ⟨RX12, "readField", "()V"⟩
abbrev cX12_readRoad : ByteArray := prog_14_method_30_code
def yX12_readRoad : MethodName := ⟨RX12, "readRoad", "()V"⟩
abbrev cX12_readGlider : ByteArray := prog_14_method_31_code
def yX12_readGlider : MethodName := ⟨RX12, "readGlider", "()V"⟩
abbrev cX12_fault : ByteArray := prog_14_method_32_code
def yX12_fault : MethodName := ⟨RX12, "fault", "(I)I"⟩
abbrev cX12_isCell : ByteArray := prog_14_method_33_code
def yX12_isCell : MethodName := ⟨RX12, "isCell", "(I)Z"⟩
abbrev cX12_isHour : ByteArray := prog_14_method_34_code
def yX12_isHour : MethodName := ⟨RX12, "isHour", "(I)Z"⟩
abbrev cX12_liftOf : ByteArray := prog_14_method_35_code
def yX12_liftOf : MethodName := ⟨RX12, "liftOf", "(II)I"⟩
abbrev cX12_lift : ByteArray := prog_14_method_36_code
def yX12_lift : MethodName := ⟨RX12, "lift", "(II)I"⟩
abbrev cX12_latest : ByteArray := prog_14_method_37_code
def yX12_latest : MethodName := ⟨RX12, "latest", "([II)I"⟩
abbrev cX12_wayOf : ByteArray := prog_14_method_38_code
def yX12_wayOf : MethodName := ⟨RX12, "wayOf", "(I)I"⟩
abbrev cX12_forceOf : ByteArray := prog_14_method_39_code
def yX12_forceOf : MethodName := ⟨RX12, "forceOf", "(I)I"⟩
abbrev cX12_topOf : ByteArray := prog_14_method_40_code
def yX12_topOf : MethodName := ⟨RX12, "topOf", "(I)I"⟩
abbrev cX12_wind : ByteArray := prog_14_method_41_code
def yX12_wind : MethodName := ⟨RX12, "wind", "(I)I"⟩
abbrev cX12_top : ByteArray := prog_14_method_42_code
def yX12_top : MethodName := ⟨RX12, "top", "(I)I"⟩
abbrev cX12_isShut : ByteArray := prog_14_method_43_code
def yX12_isShut : MethodName := ⟨RX12, "isShut", "(III)Z"⟩
abbrev cX12_isMoment : ByteArray := prog_14_method_44_code
def yX12_isMoment : MethodName := ⟨RX12, "isMoment", "(I)Z"⟩
abbrev cX12_isHeight : ByteArray := prog_14_method_45_code
def yX12_isHeight : MethodName := ⟨RX12, "isHeight", "(I)Z"⟩
abbrev cX12_shut : ByteArray := prog_14_method_46_code
def yX12_shut : MethodName := ⟨RX12, "shut", "(III)I"⟩
abbrev cX12_isGlider : ByteArray := prog_14_method_47_code
def yX12_isGlider : MethodName := ⟨RX12, "isGlider", "(I)Z"⟩
abbrev cX12_dx : ByteArray := prog_14_method_48_code
def yX12_dx : MethodName := ⟨RX12, "dx", "(I)I"⟩
abbrev cX12_dy : ByteArray := prog_14_method_49_code
def yX12_dy : MethodName := ⟨RX12, "dy", "(I)I"⟩
abbrev cX12_leads : ByteArray := prog_14_method_50_code
def yX12_leads : MethodName := ⟨RX12, "leads", "(IIIII)Z"⟩
abbrev cX12_canBegin : ByteArray := prog_14_method_51_code
def yX12_canBegin : MethodName := ⟨RX12, "canBegin", "(IIII)Z"⟩
abbrev cX12_move : ByteArray := prog_14_method_52_code
def yX12_move : MethodName := ⟨RX12, "move", "(IIIII)I"⟩
abbrev cX12_task : ByteArray := prog_14_method_53_code
def yX12_task : MethodName := ⟨RX12, "task", "(IIII)Z"⟩
abbrev cX12_add : ByteArray := prog_14_method_54_code
def yX12_add : MethodName := ⟨RX12, "add", "(I)V"⟩
abbrev cX12_roundedIn : ByteArray := prog_14_method_55_code
def yX12_roundedIn : MethodName := ⟨RX12, "roundedIn", "(II)I"⟩
abbrev cX12_spot : ByteArray := prog_14_method_56_code
def yX12_spot : MethodName := ⟨RX12, "spot", "(IIII)I"⟩
abbrev cX12_isFlown : ByteArray := prog_14_method_57_code
def yX12_isFlown : MethodName := ⟨RX12, "isFlown", "(IIII)Z"⟩
abbrev cX12_endBy : ByteArray := prog_14_method_58_code
def yX12_endBy : MethodName := ⟨RX12, "endBy", "(IIIIII)I"⟩
abbrev cX12_reckon : ByteArray := prog_14_method_59_code
def yX12_reckon : MethodName := ⟨RX12, "reckon", "(II)V"⟩
abbrev cX12_fly : ByteArray := prog_14_method_60_code
def yX12_fly : MethodName := ⟨RX12, "fly", "(IIIII)I"⟩
abbrev cX12_soonest : ByteArray := prog_14_method_61_code
def yX12_soonest : MethodName := ⟨RX12, "soonest", "(IIIII)I"⟩
abbrev cX12_way : ByteArray := prog_14_method_62_code
def yX12_way : MethodName := ⟨RX12, "way", "(IIIIII)I"⟩
abbrev cX12_safe : ByteArray := prog_14_method_63_code
def yX12_safe : MethodName := ⟨RX12, "safe", "(IIII)I"⟩
abbrev cX12_glide : ByteArray := prog_14_method_64_code
def yX12_glide : MethodName := ⟨RX12, "glide", "(IIII)V"⟩
abbrev cX12_isComeTo : ByteArray := prog_14_method_65_code
def yX12_isComeTo : MethodName := ⟨RX12, "isComeTo", "(II)Z"⟩
abbrev cX12_isIn : ByteArray := prog_14_method_66_code
def yX12_isIn : MethodName := ⟨RX12, "isIn", "(III)Z"⟩
abbrev cX12_field : ByteArray := prog_14_method_67_code
def yX12_field : MethodName := ⟨RX12, "field", "(III)Z"⟩
abbrev cX12_launch : ByteArray := prog_14_method_68_code
def yX12_launch : MethodName := ⟨RX12, "launch", "(ZI)I"⟩
abbrev cX12_queue : ByteArray := prog_14_method_69_code
def yX12_queue : MethodName := ⟨RX12, "queue", "()V"⟩
abbrev cX12_launched : ByteArray := prog_14_method_70_code
def yX12_launched : MethodName := ⟨RX12, "launched", "(II)I"⟩
abbrev cX12_isPilot : ByteArray := prog_14_method_71_code
def yX12_isPilot : MethodName := ⟨RX12, "isPilot", "(I)Z"⟩
abbrev cX12_pilot : ByteArray := prog_14_method_72_code
def yX12_pilot : MethodName := ⟨RX12, "pilot", "(I)I"⟩
abbrev cX12_fix : ByteArray := prog_14_method_73_code
def yX12_fix : MethodName := ⟨RX12, "fix", "(IIII)I"⟩
abbrev cX12_untell : ByteArray := prog_14_method_74_code
def yX12_untell : MethodName := ⟨RX12, "untell", "(I)Z"⟩
abbrev cX12_later : ByteArray := prog_14_method_75_code
def yX12_later : MethodName := ⟨RX12, "later", "(I)I"⟩
abbrev cX12_zone : ByteArray := prog_14_method_76_code
def yX12_zone : MethodName := ⟨RX12, "zone", "(I)Z"⟩
abbrev cX12_plain : ByteArray := prog_14_method_77_code
def yX12_plain : MethodName := ⟨RX12, "plain", "(I)I"⟩
abbrev cX12_apart : ByteArray := prog_14_method_78_code
def yX12_apart : MethodName := ⟨RX12, "apart", "(II)I"⟩
abbrev cX12_trace : ByteArray := prog_14_method_79_code
def yX12_trace : MethodName := ⟨RX12, "trace", "(II)V"⟩
abbrev cX12_isAtPoint : ByteArray := prog_14_method_80_code
def yX12_isAtPoint : MethodName := ⟨RX12, "isAtPoint", "(II)Z"⟩
abbrev cX12_leastRounded : ByteArray := prog_14_method_81_code
def yX12_leastRounded : MethodName := ⟨RX12, "leastRounded", "()I"⟩
abbrev cX12_toZone : ByteArray := prog_14_method_82_code
def yX12_toZone : MethodName := ⟨RX12, "toZone", "(II)I"⟩
abbrev cX12_mostRounded : ByteArray := prog_14_method_83_code
def yX12_mostRounded : MethodName := ⟨RX12, "mostRounded", "()I"⟩
abbrev cX12_rounded : ByteArray := prog_14_method_84_code
def yX12_rounded : MethodName := ⟨RX12, "rounded", "(IZI)I"⟩
abbrev cX12_lengthOf : ByteArray := prog_14_method_85_code
def yX12_lengthOf : MethodName := ⟨RX12, "lengthOf", "(I)I"⟩
abbrev cX12_legsOf : ByteArray := prog_14_method_86_code
def yX12_legsOf : MethodName := ⟨RX12, "legsOf", "()I"⟩
abbrev cX12_doneOf : ByteArray := prog_14_method_87_code
def yX12_doneOf : MethodName := ⟨RX12, "doneOf", "()I"⟩
abbrev cX12_timeOf : ByteArray := prog_14_method_88_code
def yX12_timeOf : MethodName := ⟨RX12, "timeOf", "()I"⟩
abbrev cX12_sureWalls : ByteArray := prog_14_method_89_code
def yX12_sureWalls : MethodName := ⟨RX12, "sureWalls", "()I"⟩
abbrev cX12_mayEnter : ByteArray := prog_14_method_90_code
def yX12_mayEnter : MethodName := ⟨RX12, "mayEnter", "(II)Z"⟩
abbrev cX12_maybeWalls : ByteArray := prog_14_method_91_code
def yX12_maybeWalls : MethodName := ⟨RX12, "maybeWalls", "()I"⟩
abbrev cX12_flown : ByteArray := prog_14_method_92_code
def yX12_flown : MethodName := ⟨RX12, "flown", "(III)I"⟩
abbrev cX12_law : ByteArray := prog_14_method_93_code
def yX12_law : MethodName := ⟨RX12, "law", "()I"⟩
abbrev cX12_step : ByteArray := prog_14_method_94_code
def yX12_step : MethodName := ⟨RX12, "step", "(II)V"⟩
abbrev cX12_put : ByteArray := prog_14_method_95_code
def yX12_put : MethodName := ⟨RX12, "put", "(II)V"⟩
abbrev cX12_e : ByteArray := prog_14_method_96_code
def yX12_e : MethodName := ⟨RX12, "e", "()V"⟩
abbrev cX12_wordHere : ByteArray := prog_14_method_97_code
def yX12_wordHere : MethodName := ⟨RX12, "wordHere", "()I"⟩
abbrev cX12_unit : ByteArray := prog_14_method_98_code
def yX12_unit : MethodName := ⟨RX12, "unit", "()Z"⟩
abbrev cX12_rankHere : ByteArray := prog_14_method_99_code
def yX12_rankHere : MethodName := ⟨RX12, "rankHere", "()I"⟩
abbrev cX12_isCompared : ByteArray := prog_14_method_100_code
def yX12_isCompared : MethodName := ⟨RX12, "isCompared", "()Z"⟩
abbrev cX12_behind : ByteArray := prog_14_method_101_code
def yX12_behind : MethodName := ⟨RX12, "behind", "()Z"⟩
abbrev cX12_bitsOf : ByteArray := prog_14_method_102_code
def yX12_bitsOf : MethodName := ⟨RX12, "bitsOf", "(I)I"⟩
abbrev cX12_term : ByteArray := prog_14_method_103_code
def yX12_term : MethodName := ⟨RX12, "term", "(II)I"⟩
abbrev cX12_two : ByteArray := prog_14_method_104_code
def yX12_two : MethodName := ⟨RX12, "two", "(III)I"⟩
abbrev cX12_compareAll : ByteArray := prog_14_method_105_code
def yX12_compareAll : MethodName := ⟨RX12, "compareAll", "(I)V"⟩
abbrev cX12_scoreOf : ByteArray := prog_14_method_106_code
def yX12_scoreOf : MethodName := ⟨RX12, "scoreOf", "(II)I"⟩
abbrev cX12_score : ByteArray := prog_14_method_107_code
def yX12_score : MethodName := ⟨RX12, "score", "(II)I"⟩
abbrev cX12_rank : ByteArray := prog_14_method_108_code
def yX12_rank : MethodName := ⟨RX12, "rank", "(II)I"⟩
abbrev cX12_measure : ByteArray := prog_14_method_109_code
def yX12_measure : MethodName := ⟨RX12, "measure", "()V"⟩
abbrev cX12_out : ByteArray := prog_14_method_110_code
def yX12_out : MethodName := ⟨RX12, "out", "(I)I"⟩
abbrev cX12_fetched : ByteArray := prog_14_method_111_code
def yX12_fetched : MethodName := ⟨RX12, "fetched", "()I"⟩
abbrev cX12_minutes : ByteArray := prog_14_method_112_code
def yX12_minutes : MethodName := ⟨RX12, "minutes", "(II)I"⟩
abbrev cX12_seek : ByteArray := prog_14_method_113_code
def yX12_seek : MethodName := ⟨RX12, "seek", "(II)I"⟩
abbrev cX12_lastHome : ByteArray := prog_14_method_114_code
def yX12_lastHome : MethodName := ⟨RX12, "lastHome", "(III)I"⟩
abbrev cX12_home : ByteArray := prog_14_method_115_code
def yX12_home : MethodName := ⟨RX12, "home", "(II)I"⟩
abbrev cX12_trailer : ByteArray := prog_14_method_116_code
def yX12_trailer : MethodName := ⟨RX12, "trailer", "(III)I"⟩
abbrev cX12_about : ByteArray := prog_14_method_117_code
def yX12_about : MethodName := ⟨RX12, "about", "(I)I"⟩
abbrev cX12_feed : ByteArray := prog_14_method_118_code
def yX12_feed : MethodName := ⟨RX12, "feed", "(IIIII)I"⟩
abbrev cX12_end : ByteArray := prog_14_method_119_code
def yX12_end : MethodName := ⟨RX12, "end", "(I)I"⟩
def RJ11 : String := "java/lang/Character"
def TJ11 : u_T := fun k => match k with
  | _ => ("", "", "", false)
def tyJ11 : Nat → FieldType := fun k => match k with
  | _ => .int
abbrev wsJ110 : List Cond := u_ws RJ11 TJ11 0
theorem nmJ11 : ∀ a, a < 0 → ∀ b, b < 0 → a ≠ b → (TJ11 a).2.1 ≠ (TJ11 b).2.1 := by decide +kernel
theorem tyJ11_ok : ∀ k, k < 0 → parseFieldDescriptor (TJ11 k).2.2.1 = some (tyJ11 k) := by decide +kernel
abbrev cJ11_isValidCodePoint_9a6ad : ByteArray := prog_15_method_11_code
def yJ11_isValidCodePoint_9a6ad : MethodName := ⟨RJ11, "isValidCodePoint", "(I)Z"⟩
abbrev cJ11_highSurrogate_5068e : ByteArray := prog_15_method_28_code
def yJ11_highSurrogate_5068e : MethodName := ⟨RJ11, "highSurrogate", "(I)C"⟩
abbrev cJ11_lowSurrogate_5068e : ByteArray := prog_15_method_29_code
def yJ11_lowSurrogate_5068e : MethodName := ⟨RJ11, "lowSurrogate", "(I)C"⟩
def RJ6 : String := "java/lang/Integer"
def TJ6 : u_T := fun k => match k with
  | _ => ("", "", "", false)
def tyJ6 : Nat → FieldType := fun k => match k with
  | _ => .int
abbrev wsJ60 : List Cond := u_ws RJ6 TJ6 0
theorem nmJ6 : ∀ a, a < 0 → ∀ b, b < 0 → a ≠ b → (TJ6 a).2.1 ≠ (TJ6 b).2.1 := by decide +kernel
theorem tyJ6_ok : ∀ k, k < 0 → parseFieldDescriptor (TJ6 k).2.2.1 = some (tyJ6 k) := by decide +kernel
abbrev cJ6_bitCount_0f7a4 : ByteArray := prog_16_method_49_code
def yJ6_bitCount_0f7a4 : MethodName := ⟨RJ6, "bitCount", "(I)I"⟩
def RJ13 : String := "java/lang/Long"
def TJ13 : u_T := fun k => match k with
  | _ => ("", "", "", false)
def tyJ13 : Nat → FieldType := fun k => match k with
  | _ => .int
abbrev wsJ130 : List Cond := u_ws RJ13 TJ13 0
theorem nmJ13 : ∀ a, a < 0 → ∀ b, b < 0 → a ≠ b → (TJ13 a).2.1 ≠ (TJ13 b).2.1 := by decide +kernel
theorem tyJ13_ok : ∀ k, k < 0 → parseFieldDescriptor (TJ13 k).2.2.1 = some (tyJ13 k) := by decide +kernel
abbrev cJ13_bitCount_95d88 : ByteArray := prog_17_method_50_code
def yJ13_bitCount_95d88 : MethodName := ⟨RJ13, "bitCount", "(J)I"⟩
def RJ9 : String := "java/lang/Math"
def TJ9 : u_T := fun k => match k with
  | _ => ("", "", "", false)
def tyJ9 : Nat → FieldType := fun k => match k with
  | _ => .int
abbrev wsJ90 : List Cond := u_ws RJ9 TJ9 0
theorem nmJ9 : ∀ a, a < 0 → ∀ b, b < 0 → a ≠ b → (TJ9 a).2.1 ≠ (TJ9 b).2.1 := by decide +kernel
theorem tyJ9_ok : ∀ k, k < 0 → parseFieldDescriptor (TJ9 k).2.2.1 = some (tyJ9 k) := by decide +kernel
abbrev cJ9_abs_0f7a4 : ByteArray := prog_18_method_59_code
def yJ9_abs_0f7a4 : MethodName := ⟨RJ9, "abs", "(I)I"⟩
abbrev cJ9_max_7cf53 : ByteArray := prog_18_method_65_code
def yJ9_max_7cf53 : MethodName := ⟨RJ9, "max", "(II)I"⟩
abbrev cJ9_min_7cf53 : ByteArray := prog_18_method_69_code
def yJ9_min_7cf53 : MethodName := ⟨RJ9, "min", "(II)I"⟩
def RJ0 : String := "java/lang/String"
def TJ0 : u_T := fun k => match k with
  | _ => ("", "", "", false)
def tyJ0 : Nat → FieldType := fun k => match k with
  | _ => .int
abbrev wsJ00 : List Cond := u_ws RJ0 TJ0 0
theorem nmJ0 : ∀ a, a < 0 → ∀ b, b < 0 → a ≠ b → (TJ0 a).2.1 ≠ (TJ0 b).2.1 := by decide +kernel
theorem tyJ0_ok : ∀ k, k < 0 → parseFieldDescriptor (TJ0 k).2.2.1 = some (tyJ0 k) := by decide +kernel
abbrev cJ0_length_8abf5 : ByteArray := prog_19_method_54_code
def yJ0_length_8abf5 : MethodName := ⟨RJ0, "length", "()I"⟩
abbrev cJ0_charAt_5068e : ByteArray := prog_19_method_56_code
def yJ0_charAt_5068e : MethodName := ⟨RJ0, "charAt", "(I)C"⟩
abbrev cJ0_indexOf_0f7a4 : ByteArray := prog_19_method_79_code
def yJ0_indexOf_0f7a4 : MethodName := ⟨RJ0, "indexOf", "(I)I"⟩
abbrev cJ0_indexOf_7cf53 : ByteArray := prog_19_method_80_code
def yJ0_indexOf_7cf53 : MethodName := ⟨RJ0, "indexOf", "(II)I"⟩
abbrev cJ0_coder_7d493 : ByteArray := prog_19_method_152_code
def yJ0_coder_7d493 : MethodName := ⟨RJ0, "coder", "()B"⟩
abbrev cJ0_isLatin1_aae02 : ByteArray := prog_19_method_154_code
def yJ0_isLatin1_aae02 : MethodName := ⟨RJ0, "isLatin1", "()Z"⟩
abbrev cJ0_checkIndex_df160 : ByteArray := prog_19_method_155_code
def yJ0_checkIndex_df160 : MethodName := ⟨RJ0, "checkIndex", "(II)V"⟩
abbrev cJ0_checkBoundsBeginEnd_23922 : ByteArray := prog_19_method_158_code
def yJ0_checkBoundsBeginEnd_23922 : MethodName := ⟨RJ0, "checkBoundsBeginEnd", "(III)V"⟩
def RJ1 : String := "java/lang/StringLatin1"
def TJ1 : u_T := fun k => match k with
  | _ => ("", "", "", false)
def tyJ1 : Nat → FieldType := fun k => match k with
  | _ => .int
abbrev wsJ10 : List Cond := u_ws RJ1 TJ1 0
theorem nmJ1 : ∀ a, a < 0 → ∀ b, b < 0 → a ≠ b → (TJ1 a).2.1 ≠ (TJ1 b).2.1 := by decide +kernel
theorem tyJ1_ok : ∀ k, k < 0 → parseFieldDescriptor (TJ1 k).2.2.1 = some (tyJ1 k) := by decide +kernel
abbrev cJ1_charAt_3b067 : ByteArray := prog_20_method_2_code
def yJ1_charAt_3b067 : MethodName := ⟨RJ1, "charAt", "([BI)C"⟩
abbrev cJ1_canEncode_9a6ad : ByteArray := prog_20_method_4_code
def yJ1_canEncode_9a6ad : MethodName := ⟨RJ1, "canEncode", "(I)Z"⟩
abbrev cJ1_indexOf_4cfef : ByteArray := prog_20_method_22_code
def yJ1_indexOf_4cfef : MethodName := ⟨RJ1, "indexOf", "([BIII)I"⟩
abbrev cJ1_indexOfChar_4cfef : ByteArray := prog_20_method_23_code
def yJ1_indexOfChar_4cfef : MethodName := ⟨RJ1, "indexOfChar", "([BIII)I"⟩
def RJ2 : String := "java/lang/StringUTF16"
def TJ2 : u_T := fun k => match k with
  | _ => ("", "", "", false)
def tyJ2 : Nat → FieldType := fun k => match k with
  | _ => .int
abbrev wsJ20 : List Cond := u_ws RJ2 TJ2 0
theorem nmJ2 : ∀ a, a < 0 → ∀ b, b < 0 → a ≠ b → (TJ2 a).2.1 ≠ (TJ2 b).2.1 := by decide +kernel
theorem tyJ2_ok : ∀ k, k < 0 → parseFieldDescriptor (TJ2 k).2.2.1 = some (tyJ2 k) := by decide +kernel
abbrev cJ2_getChar_3b067 : ByteArray := prog_21_method_5_code
def yJ2_getChar_3b067 : MethodName := ⟨RJ2, "getChar", "([BI)C"⟩
abbrev cJ2_length_9d52b : ByteArray := prog_21_method_6_code
def yJ2_length_9d52b : MethodName := ⟨RJ2, "length", "([B)I"⟩
abbrev cJ2_indexOf_4cfef : ByteArray := prog_21_method_40_code
def yJ2_indexOf_4cfef : MethodName := ⟨RJ2, "indexOf", "([BIII)I"⟩
abbrev cJ2_indexOfChar_4cfef : ByteArray := prog_21_method_47_code
def yJ2_indexOfChar_4cfef : MethodName := ⟨RJ2, "indexOfChar", "([BIII)I"⟩
abbrev cJ2_indexOfCharUnsafe_4cfef : ByteArray := prog_21_method_48_code
def yJ2_indexOfCharUnsafe_4cfef : MethodName := ⟨RJ2, "indexOfCharUnsafe", "([BIII)I"⟩
abbrev cJ2_indexOfSupplementary_4cfef : ByteArray := prog_21_method_49_code
def yJ2_indexOfSupplementary_4cfef : MethodName := ⟨RJ2, "indexOfSupplementary", "([BIII)I"⟩
abbrev cJ2_charAt_3b067 : ByteArray := prog_21_method_83_code
def yJ2_charAt_3b067 : MethodName := ⟨RJ2, "charAt", "([BI)C"⟩
abbrev cJ2_checkIndex_2214a : ByteArray := prog_21_method_91_code
def yJ2_checkIndex_2214a : MethodName := ⟨RJ2, "checkIndex", "(I[B)V"⟩
abbrev cJ2_checkBoundsBeginEnd_d044e : ByteArray := prog_21_method_93_code
def yJ2_checkBoundsBeginEnd_d044e : MethodName := ⟨RJ2, "checkBoundsBeginEnd", "(II[B)V"⟩
def RJ10 : String := "java/lang/System"
def TJ10 : u_T := fun k => match k with
  | _ => ("", "", "", false)
def tyJ10 : Nat → FieldType := fun k => match k with
  | _ => .int
abbrev wsJ100 : List Cond := u_ws RJ10 TJ10 0
theorem nmJ10 : ∀ a, a < 0 → ∀ b, b < 0 → a ≠ b → (TJ10 a).2.1 ≠ (TJ10 b).2.1 := by decide +kernel
theorem tyJ10_ok : ∀ k, k < 0 → parseFieldDescriptor (TJ10 k).2.2.1 = some (tyJ10 k) := by decide +kernel
def RJ7 : String := "java/util/Arrays"
def TJ7 : u_T := fun k => match k with
  | _ => ("", "", "", false)
def tyJ7 : Nat → FieldType := fun k => match k with
  | _ => .int
abbrev wsJ70 : List Cond := u_ws RJ7 TJ7 0
theorem nmJ7 : ∀ a, a < 0 → ∀ b, b < 0 → a ≠ b → (TJ7 a).2.1 ≠ (TJ7 b).2.1 := by decide +kernel
theorem tyJ7_ok : ∀ k, k < 0 → parseFieldDescriptor (TJ7 k).2.2.1 = some (tyJ7 k) := by decide +kernel
abbrev cJ7_fill_d0a16 : ByteArray := prog_23_method_101_code
def yJ7_fill_d0a16 : MethodName := ⟨RJ7, "fill", "([JJ)V"⟩
abbrev cJ7_fill_53178 : ByteArray := prog_23_method_103_code
def yJ7_fill_53178 : MethodName := ⟨RJ7, "fill", "([II)V"⟩
def RJ3 : String := "jdk/internal/util/Preconditions"
def TJ3 : u_T := fun k => match k with
  | _ => ("", "", "", false)
def tyJ3 : Nat → FieldType := fun k => match k with
  | _ => .int
abbrev wsJ30 : List Cond := u_ws RJ3 TJ3 0
theorem nmJ3 : ∀ a, a < 0 → ∀ b, b < 0 → a ≠ b → (TJ3 a).2.1 ≠ (TJ3 b).2.1 := by decide +kernel
theorem tyJ3_ok : ∀ k, k < 0 → parseFieldDescriptor (TJ3 k).2.2.1 = some (tyJ3 k) := by decide +kernel
abbrev cJ3_checkIndex_8e157 : ByteArray := prog_24_method_11_code
def yJ3_checkIndex_8e157 : MethodName := ⟨RJ3, "checkIndex", "(IILjava/util/function/BiFunction;)I"⟩
abbrev cJ3_checkFromToIndex_8c36e : ByteArray := prog_24_method_12_code
def yJ3_checkFromToIndex_8c36e : MethodName := ⟨RJ3, "checkFromToIndex", "(IIILjava/util/function/BiFunction;)I"⟩
def RL : String := "SoarHouseLaw"
abbrev cL_law : ByteArray := code
abbrev vwCl : List vw_C := [(RX0, TX0, 3), (RX1, TX1, 17), (RX2, TX2, 9), (RX3, TX3, 7), (RX4, TX4, 15), (RX5, TX5, 2), (RX6, TX6, 1), (RX7, TX7, 9), (RX8, TX8, 7), (RX9, TX9, 10), (RX10, TX10, 7), (RX11, TX11, 16), (RX12, TX12, 100)]
