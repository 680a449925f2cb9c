section
-- ===== PART A: goes FIRST, ahead of the names: the tables' words, and 'selects' of the private methods out of them =====
/-- a private method of a class that the tables say can be made, by its rows of tables_1 -/
def lw_okq (q : MethodName × Nat) : Prop := (q.1.cls ≠ "java/lang/invoke/MethodHandle" ∧ q.1.cls ≠ "java/lang/invoke/VarHandle") ∧ Cond.instantiable q.1.cls q.2 ∈ tables_1 ∧ Cond.privateMethod q.1 ∈ tables_1 ∧ Cond.instanceMethod q.1 ∈ tables_1
theorem lw_p0 : lw_okq (⟨"SoarHouse", "putFour", "(I)V"⟩, 16) := ⟨⟨by decide +kernel, by decide +kernel⟩, List.mem_of_getElem? (i := 25) (by decide +kernel), List.mem_of_getElem? (i := 493) (by decide +kernel), List.mem_of_getElem? (i := 494) (by decide +kernel)⟩
theorem lw_p1 : lw_okq (⟨"SoarHouse$PlanReader", "read", "(LSoarHouse$Plan;I)Z"⟩, 2) := ⟨⟨by decide +kernel, by decide +kernel⟩, List.mem_of_getElem? (i := 154) (by decide +kernel), List.mem_of_getElem? (i := 505) (by decide +kernel), List.mem_of_getElem? (i := 506) (by decide +kernel)⟩
theorem lw_p2 : lw_okq (⟨"SoarHouse$Plan", "clear", "()V"⟩, 15) := ⟨⟨by decide +kernel, by decide +kernel⟩, List.mem_of_getElem? (i := 74) (by decide +kernel), List.mem_of_getElem? (i := 509) (by decide +kernel), List.mem_of_getElem? (i := 510) (by decide +kernel)⟩
theorem lw_p3 : lw_okq (⟨"SoarHouse$Tokens", "open", "(I)V"⟩, 9) := ⟨⟨by decide +kernel, by decide +kernel⟩, List.mem_of_getElem? (i := 33) (by decide +kernel), List.mem_of_getElem? (i := 513) (by decide +kernel), List.mem_of_getElem? (i := 514) (by decide +kernel)⟩
theorem lw_p4 : lw_okq (⟨"SoarHouse$Tokens", "pass", "()V"⟩, 9) := ⟨⟨by decide +kernel, by decide +kernel⟩, List.mem_of_getElem? (i := 33) (by decide +kernel), List.mem_of_getElem? (i := 520) (by decide +kernel), List.mem_of_getElem? (i := 521) (by decide +kernel)⟩
theorem lw_p5 : lw_okq (⟨"SoarHouse$Tokens", "runOf", "(CC)I"⟩, 9) := ⟨⟨by decide +kernel, by decide +kernel⟩, List.mem_of_getElem? (i := 33) (by decide +kernel), List.mem_of_getElem? (i := 524) (by decide +kernel), List.mem_of_getElem? (i := 525) (by decide +kernel)⟩
theorem lw_p6 : lw_okq (⟨"SoarHouse$Tokens", "knownWord", "()I"⟩, 9) := ⟨⟨by decide +kernel, by decide +kernel⟩, List.mem_of_getElem? (i := 33) (by decide +kernel), List.mem_of_getElem? (i := 528) (by decide +kernel), List.mem_of_getElem? (i := 529) (by decide +kernel)⟩
theorem lw_p7 : lw_okq (⟨"SoarHouse$Tokens", "numberRead", "()I"⟩, 9) := ⟨⟨by decide +kernel, by decide +kernel⟩, List.mem_of_getElem? (i := 33) (by decide +kernel), List.mem_of_getElem? (i := 581) (by decide +kernel), List.mem_of_getElem? (i := 582) (by decide +kernel)⟩
theorem lw_p8 : lw_okq (⟨"SoarHouse$PlanReader", "readRow", "()Z"⟩, 2) := ⟨⟨by decide +kernel, by decide +kernel⟩, List.mem_of_getElem? (i := 154) (by decide +kernel), List.mem_of_getElem? (i := 643) (by decide +kernel), List.mem_of_getElem? (i := 644) (by decide +kernel)⟩
theorem lw_p9 : lw_okq (⟨"SoarHouse$Tokens", "takeNumber", "(II)I"⟩, 9) := ⟨⟨by decide +kernel, by decide +kernel⟩, List.mem_of_getElem? (i := 33) (by decide +kernel), List.mem_of_getElem? (i := 648) (by decide +kernel), List.mem_of_getElem? (i := 649) (by decide +kernel)⟩
theorem lw_p10 : lw_okq (⟨"SoarHouse$Tokens", "refuse", "(I)Z"⟩, 9) := ⟨⟨by decide +kernel, by decide +kernel⟩, List.mem_of_getElem? (i := 33) (by decide +kernel), List.mem_of_getElem? (i := 652) (by decide +kernel), List.mem_of_getElem? (i := 653) (by decide +kernel)⟩
theorem lw_p11 : lw_okq (⟨"SoarHouse$Tokens", "refuseTaken", "(I)Z"⟩, 9) := ⟨⟨by decide +kernel, by decide +kernel⟩, List.mem_of_getElem? (i := 33) (by decide +kernel), List.mem_of_getElem? (i := 656) (by decide +kernel), List.mem_of_getElem? (i := 657) (by decide +kernel)⟩
theorem lw_p12 : lw_okq (⟨"SoarHouse$Tokens", "wordLength", "()I"⟩, 9) := ⟨⟨by decide +kernel, by decide +kernel⟩, List.mem_of_getElem? (i := 33) (by decide +kernel), List.mem_of_getElem? (i := 661) (by decide +kernel), List.mem_of_getElem? (i := 662) (by decide +kernel)⟩
theorem lw_p13 : lw_okq (⟨"SoarHouse$Tokens", "letterOfWord", "(I)I"⟩, 9) := ⟨⟨by decide +kernel, by decide +kernel⟩, List.mem_of_getElem? (i := 33) (by decide +kernel), List.mem_of_getElem? (i := 665) (by decide +kernel), List.mem_of_getElem? (i := 666) (by decide +kernel)⟩
theorem lw_p14 : lw_okq (⟨"SoarHouse$PlanReader", "readLift", "()Z"⟩, 2) := ⟨⟨by decide +kernel, by decide +kernel⟩, List.mem_of_getElem? (i := 154) (by decide +kernel), List.mem_of_getElem? (i := 670) (by decide +kernel), List.mem_of_getElem? (i := 671) (by decide +kernel)⟩
theorem lw_p15 : lw_okq (⟨"SoarHouse$PlanReader", "readWind", "()Z"⟩, 2) := ⟨⟨by decide +kernel, by decide +kernel⟩, List.mem_of_getElem? (i := 154) (by decide +kernel), List.mem_of_getElem? (i := 674) (by decide +kernel), List.mem_of_getElem? (i := 675) (by decide +kernel)⟩
def lw_privs_1 : List (MethodName × Nat) := [(⟨"SoarHouse", "putFour", "(I)V"⟩, 16), (⟨"SoarHouse$PlanReader", "read", "(LSoarHouse$Plan;I)Z"⟩, 2), (⟨"SoarHouse$Plan", "clear", "()V"⟩, 15), (⟨"SoarHouse$Tokens", "open", "(I)V"⟩, 9), (⟨"SoarHouse$Tokens", "pass", "()V"⟩, 9), (⟨"SoarHouse$Tokens", "runOf", "(CC)I"⟩, 9), (⟨"SoarHouse$Tokens", "knownWord", "()I"⟩, 9), (⟨"SoarHouse$Tokens", "numberRead", "()I"⟩, 9), (⟨"SoarHouse$PlanReader", "readRow", "()Z"⟩, 2), (⟨"SoarHouse$Tokens", "takeNumber", "(II)I"⟩, 9), (⟨"SoarHouse$Tokens", "refuse", "(I)Z"⟩, 9), (⟨"SoarHouse$Tokens", "refuseTaken", "(I)Z"⟩, 9), (⟨"SoarHouse$Tokens", "wordLength", "()I"⟩, 9), (⟨"SoarHouse$Tokens", "letterOfWord", "(I)I"⟩, 9), (⟨"SoarHouse$PlanReader", "readLift", "()Z"⟩, 2), (⟨"SoarHouse$PlanReader", "readWind", "()Z"⟩, 2)]
theorem lw_r1 : ∀ q ∈ lw_privs_1, lw_okq q := List.forall_mem_cons.mpr ⟨lw_p0, List.forall_mem_cons.mpr ⟨lw_p1, List.forall_mem_cons.mpr ⟨lw_p2, List.forall_mem_cons.mpr ⟨lw_p3, List.forall_mem_cons.mpr ⟨lw_p4, List.forall_mem_cons.mpr ⟨lw_p5, List.forall_mem_cons.mpr ⟨lw_p6, List.forall_mem_cons.mpr ⟨lw_p7, List.forall_mem_cons.mpr ⟨lw_p8, List.forall_mem_cons.mpr ⟨lw_p9, List.forall_mem_cons.mpr ⟨lw_p10, List.forall_mem_cons.mpr ⟨lw_p11, List.forall_mem_cons.mpr ⟨lw_p12, List.forall_mem_cons.mpr ⟨lw_p13, List.forall_mem_cons.mpr ⟨lw_p14, List.forall_mem_cons.mpr ⟨lw_p15, fun _ h => absurd h List.not_mem_nil⟩⟩⟩⟩⟩⟩⟩⟩⟩⟩⟩⟩⟩⟩⟩⟩
theorem lw_p16 : lw_okq (⟨"SoarHouse$PlanReader", "takeHour", "([I)I"⟩, 2) := ⟨⟨by decide +kernel, by decide +kernel⟩, List.mem_of_getElem? (i := 154) (by decide +kernel), List.mem_of_getElem? (i := 678) (by decide +kernel), List.mem_of_getElem? (i := 679) (by decide +kernel)⟩
theorem lw_p17 : lw_okq (⟨"SoarHouse$PlanReader", "windLetter", "()I"⟩, 2) := ⟨⟨by decide +kernel, by decide +kernel⟩, List.mem_of_getElem? (i := 154) (by decide +kernel), List.mem_of_getElem? (i := 682) (by decide +kernel), List.mem_of_getElem? (i := 683) (by decide +kernel)⟩
theorem lw_p18 : lw_okq (⟨"SoarHouse$PlanReader", "readTop", "()Z"⟩, 2) := ⟨⟨by decide +kernel, by decide +kernel⟩, List.mem_of_getElem? (i := 154) (by decide +kernel), List.mem_of_getElem? (i := 686) (by decide +kernel), List.mem_of_getElem? (i := 687) (by decide +kernel)⟩
theorem lw_p19 : lw_okq (⟨"SoarHouse$PlanReader", "readWall", "()Z"⟩, 2) := ⟨⟨by decide +kernel, by decide +kernel⟩, List.mem_of_getElem? (i := 154) (by decide +kernel), List.mem_of_getElem? (i := 690) (by decide +kernel), List.mem_of_getElem? (i := 691) (by decide +kernel)⟩
theorem lw_p20 : lw_okq (⟨"SoarHouse$PlanReader", "takeCell", "()I"⟩, 2) := ⟨⟨by decide +kernel, by decide +kernel⟩, List.mem_of_getElem? (i := 154) (by decide +kernel), List.mem_of_getElem? (i := 694) (by decide +kernel), List.mem_of_getElem? (i := 695) (by decide +kernel)⟩
theorem lw_p21 : lw_okq (⟨"SoarHouse$PlanReader", "takeBehind", "(III)I"⟩, 2) := ⟨⟨by decide +kernel, by decide +kernel⟩, List.mem_of_getElem? (i := 154) (by decide +kernel), List.mem_of_getElem? (i := 698) (by decide +kernel), List.mem_of_getElem? (i := 699) (by decide +kernel)⟩
theorem lw_p22 : lw_okq (⟨"SoarHouse$Tokens", "takeWord", "(I)Z"⟩, 9) := ⟨⟨by decide +kernel, by decide +kernel⟩, List.mem_of_getElem? (i := 33) (by decide +kernel), List.mem_of_getElem? (i := 702) (by decide +kernel), List.mem_of_getElem? (i := 703) (by decide +kernel)⟩
theorem lw_p23 : lw_okq (⟨"SoarHouse$Tokens", "isWord", "(I)Z"⟩, 9) := ⟨⟨by decide +kernel, by decide +kernel⟩, List.mem_of_getElem? (i := 33) (by decide +kernel), List.mem_of_getElem? (i := 706) (by decide +kernel), List.mem_of_getElem? (i := 707) (by decide +kernel)⟩
theorem lw_p24 : lw_okq (⟨"SoarHouse$PlanReader", "readField", "()Z"⟩, 2) := ⟨⟨by decide +kernel, by decide +kernel⟩, List.mem_of_getElem? (i := 154) (by decide +kernel), List.mem_of_getElem? (i := 710) (by decide +kernel), List.mem_of_getElem? (i := 711) (by decide +kernel)⟩
theorem lw_p25 : lw_okq (⟨"SoarHouse$PlanReader", "readRoad", "()Z"⟩, 2) := ⟨⟨by decide +kernel, by decide +kernel⟩, List.mem_of_getElem? (i := 154) (by decide +kernel), List.mem_of_getElem? (i := 714) (by decide +kernel), List.mem_of_getElem? (i := 715) (by decide +kernel)⟩
theorem lw_p26 : lw_okq (⟨"SoarHouse$PlanReader", "readGlider", "()Z"⟩, 2) := ⟨⟨by decide +kernel, by decide +kernel⟩, List.mem_of_getElem? (i := 154) (by decide +kernel), List.mem_of_getElem? (i := 718) (by decide +kernel), List.mem_of_getElem? (i := 719) (by decide +kernel)⟩
theorem lw_p27 : lw_okq (⟨"SoarHouse$Tokens", "packedWord", "()J"⟩, 9) := ⟨⟨by decide +kernel, by decide +kernel⟩, List.mem_of_getElem? (i := 33) (by decide +kernel), List.mem_of_getElem? (i := 722) (by decide +kernel), List.mem_of_getElem? (i := 723) (by decide +kernel)⟩
theorem lw_p28 : lw_okq (⟨"SoarHouse$Plan", "hasName", "(J)Z"⟩, 15) := ⟨⟨by decide +kernel, by decide +kernel⟩, List.mem_of_getElem? (i := 74) (by decide +kernel), List.mem_of_getElem? (i := 727) (by decide +kernel), List.mem_of_getElem? (i := 728) (by decide +kernel)⟩
theorem lw_p29 : lw_okq (⟨"SoarHouse$PlanReader", "readSinks", "(I)Z"⟩, 2) := ⟨⟨by decide +kernel, by decide +kernel⟩, List.mem_of_getElem? (i := 154) (by decide +kernel), List.mem_of_getElem? (i := 731) (by decide +kernel), List.mem_of_getElem? (i := 732) (by decide +kernel)⟩
theorem lw_p30 : lw_okq (⟨"SoarHouse$Tokens", "takeSign", "(C)Z"⟩, 9) := ⟨⟨by decide +kernel, by decide +kernel⟩, List.mem_of_getElem? (i := 33) (by decide +kernel), List.mem_of_getElem? (i := 735) (by decide +kernel), List.mem_of_getElem? (i := 736) (by decide +kernel)⟩
theorem lw_p31 : lw_okq (⟨"SoarHouse$Tokens", "isSign", "(C)Z"⟩, 9) := ⟨⟨by decide +kernel, by decide +kernel⟩, List.mem_of_getElem? (i := 33) (by decide +kernel), List.mem_of_getElem? (i := 739) (by decide +kernel), List.mem_of_getElem? (i := 740) (by decide +kernel)⟩
def lw_privs_2 : List (MethodName × Nat) := [(⟨"SoarHouse$PlanReader", "takeHour", "([I)I"⟩, 2), (⟨"SoarHouse$PlanReader", "windLetter", "()I"⟩, 2), (⟨"SoarHouse$PlanReader", "readTop", "()Z"⟩, 2), (⟨"SoarHouse$PlanReader", "readWall", "()Z"⟩, 2), (⟨"SoarHouse$PlanReader", "takeCell", "()I"⟩, 2), (⟨"SoarHouse$PlanReader", "takeBehind", "(III)I"⟩, 2), (⟨"SoarHouse$Tokens", "takeWord", "(I)Z"⟩, 9), (⟨"SoarHouse$Tokens", "isWord", "(I)Z"⟩, 9), (⟨"SoarHouse$PlanReader", "readField", "()Z"⟩, 2), (⟨"SoarHouse$PlanReader", "readRoad", "()Z"⟩, 2), (⟨"SoarHouse$PlanReader", "readGlider", "()Z"⟩, 2), (⟨"SoarHouse$Tokens", "packedWord", "()J"⟩, 9), (⟨"SoarHouse$Plan", "hasName", "(J)Z"⟩, 15), (⟨"SoarHouse$PlanReader", "readSinks", "(I)Z"⟩, 2), (⟨"SoarHouse$Tokens", "takeSign", "(C)Z"⟩, 9), (⟨"SoarHouse$Tokens", "isSign", "(C)Z"⟩, 9)]
theorem lw_r2 : ∀ q ∈ lw_privs_2, lw_okq q := List.forall_mem_cons.mpr ⟨lw_p16, List.forall_mem_cons.mpr ⟨lw_p17, List.forall_mem_cons.mpr ⟨lw_p18, List.forall_mem_cons.mpr ⟨lw_p19, List.forall_mem_cons.mpr ⟨lw_p20, List.forall_mem_cons.mpr ⟨lw_p21, List.forall_mem_cons.mpr ⟨lw_p22, List.forall_mem_cons.mpr ⟨lw_p23, List.forall_mem_cons.mpr ⟨lw_p24, List.forall_mem_cons.mpr ⟨lw_p25, List.forall_mem_cons.mpr ⟨lw_p26, List.forall_mem_cons.mpr ⟨lw_p27, List.forall_mem_cons.mpr ⟨lw_p28, List.forall_mem_cons.mpr ⟨lw_p29, List.forall_mem_cons.mpr ⟨lw_p30, List.forall_mem_cons.mpr ⟨lw_p31, fun _ h => absurd h List.not_mem_nil⟩⟩⟩⟩⟩⟩⟩⟩⟩⟩⟩⟩⟩⟩⟩⟩
theorem lw_p32 : lw_okq (⟨"SoarHouse", "keepFault", "()V"⟩, 16) := ⟨⟨by decide +kernel, by decide +kernel⟩, List.mem_of_getElem? (i := 25) (by decide +kernel), List.mem_of_getElem? (i := 743) (by decide +kernel), List.mem_of_getElem? (i := 744) (by decide +kernel)⟩
theorem lw_p33 : lw_okq (⟨"SoarHouse$Traces", "clear", "()V"⟩, 10) := ⟨⟨by decide +kernel, by decide +kernel⟩, List.mem_of_getElem? (i := 321) (by decide +kernel), List.mem_of_getElem? (i := 747) (by decide +kernel), List.mem_of_getElem? (i := 748) (by decide +kernel)⟩
theorem lw_p34 : lw_okq (⟨"SoarHouse$Trailers", "clear", "()I"⟩, 7) := ⟨⟨by decide +kernel, by decide +kernel⟩, List.mem_of_getElem? (i := 409) (by decide +kernel), List.mem_of_getElem? (i := 751) (by decide +kernel), List.mem_of_getElem? (i := 752) (by decide +kernel)⟩
theorem lw_p35 : lw_okq (⟨"SoarHouse$Flight", "forget", "()V"⟩, 17) := ⟨⟨by decide +kernel, by decide +kernel⟩, List.mem_of_getElem? (i := 216) (by decide +kernel), List.mem_of_getElem? (i := 755) (by decide +kernel), List.mem_of_getElem? (i := 756) (by decide +kernel)⟩
theorem lw_p36 : lw_okq (⟨"SoarHouse$Law", "read", "(I)Z"⟩, 7) := ⟨⟨by decide +kernel, by decide +kernel⟩, List.mem_of_getElem? (i := 167) (by decide +kernel), List.mem_of_getElem? (i := 764) (by decide +kernel), List.mem_of_getElem? (i := 765) (by decide +kernel)⟩
theorem lw_p37 : lw_okq (⟨"SoarHouse$Law", "readEither", "(I)Z"⟩, 7) := ⟨⟨by decide +kernel, by decide +kernel⟩, List.mem_of_getElem? (i := 167) (by decide +kernel), List.mem_of_getElem? (i := 770) (by decide +kernel), List.mem_of_getElem? (i := 771) (by decide +kernel)⟩
theorem lw_p38 : lw_okq (⟨"SoarHouse$Law", "readBoth", "(I)Z"⟩, 7) := ⟨⟨by decide +kernel, by decide +kernel⟩, List.mem_of_getElem? (i := 167) (by decide +kernel), List.mem_of_getElem? (i := 774) (by decide +kernel), List.mem_of_getElem? (i := 775) (by decide +kernel)⟩
theorem lw_p39 : lw_okq (⟨"SoarHouse$Law", "readOne", "(I)Z"⟩, 7) := ⟨⟨by decide +kernel, by decide +kernel⟩, List.mem_of_getElem? (i := 167) (by decide +kernel), List.mem_of_getElem? (i := 778) (by decide +kernel), List.mem_of_getElem? (i := 779) (by decide +kernel)⟩
theorem lw_p40 : lw_okq (⟨"SoarHouse$Law", "put", "(I)V"⟩, 7) := ⟨⟨by decide +kernel, by decide +kernel⟩, List.mem_of_getElem? (i := 167) (by decide +kernel), List.mem_of_getElem? (i := 785) (by decide +kernel), List.mem_of_getElem? (i := 786) (by decide +kernel)⟩
theorem lw_p41 : lw_okq (⟨"SoarHouse$Law", "readSum", "(I)Z"⟩, 7) := ⟨⟨by decide +kernel, by decide +kernel⟩, List.mem_of_getElem? (i := 167) (by decide +kernel), List.mem_of_getElem? (i := 789) (by decide +kernel), List.mem_of_getElem? (i := 790) (by decide +kernel)⟩
theorem lw_p42 : lw_okq (⟨"SoarHouse$Law", "readTerm", "(I)Z"⟩, 7) := ⟨⟨by decide +kernel, by decide +kernel⟩, List.mem_of_getElem? (i := 167) (by decide +kernel), List.mem_of_getElem? (i := 793) (by decide +kernel), List.mem_of_getElem? (i := 794) (by decide +kernel)⟩
theorem lw_p43 : lw_okq (⟨"SoarHouse$Law", "readUnit", "(I)Z"⟩, 7) := ⟨⟨by decide +kernel, by decide +kernel⟩, List.mem_of_getElem? (i := 167) (by decide +kernel), List.mem_of_getElem? (i := 797) (by decide +kernel), List.mem_of_getElem? (i := 798) (by decide +kernel)⟩
theorem lw_p44 : lw_okq (⟨"SoarHouse$Law", "asked", "()I"⟩, 7) := ⟨⟨by decide +kernel, by decide +kernel⟩, List.mem_of_getElem? (i := 167) (by decide +kernel), List.mem_of_getElem? (i := 803) (by decide +kernel), List.mem_of_getElem? (i := 804) (by decide +kernel)⟩
theorem lw_p45 : lw_okq (⟨"SoarHouse$Plan", "liftOf", "(II)I"⟩, 15) := ⟨⟨by decide +kernel, by decide +kernel⟩, List.mem_of_getElem? (i := 74) (by decide +kernel), List.mem_of_getElem? (i := 821) (by decide +kernel), List.mem_of_getElem? (i := 822) (by decide +kernel)⟩
theorem lw_p46 : lw_okq (⟨"SoarHouse$Plan", "windIn", "(I)I"⟩, 15) := ⟨⟨by decide +kernel, by decide +kernel⟩, List.mem_of_getElem? (i := 74) (by decide +kernel), List.mem_of_getElem? (i := 829) (by decide +kernel), List.mem_of_getElem? (i := 830) (by decide +kernel)⟩
theorem lw_p47 : lw_okq (⟨"SoarHouse$Plan", "topIn", "(I)I"⟩, 15) := ⟨⟨by decide +kernel, by decide +kernel⟩, List.mem_of_getElem? (i := 74) (by decide +kernel), List.mem_of_getElem? (i := 837) (by decide +kernel), List.mem_of_getElem? (i := 838) (by decide +kernel)⟩
def lw_privs_3 : List (MethodName × Nat) := [(⟨"SoarHouse", "keepFault", "()V"⟩, 16), (⟨"SoarHouse$Traces", "clear", "()V"⟩, 10), (⟨"SoarHouse$Trailers", "clear", "()I"⟩, 7), (⟨"SoarHouse$Flight", "forget", "()V"⟩, 17), (⟨"SoarHouse$Law", "read", "(I)Z"⟩, 7), (⟨"SoarHouse$Law", "readEither", "(I)Z"⟩, 7), (⟨"SoarHouse$Law", "readBoth", "(I)Z"⟩, 7), (⟨"SoarHouse$Law", "readOne", "(I)Z"⟩, 7), (⟨"SoarHouse$Law", "put", "(I)V"⟩, 7), (⟨"SoarHouse$Law", "readSum", "(I)Z"⟩, 7), (⟨"SoarHouse$Law", "readTerm", "(I)Z"⟩, 7), (⟨"SoarHouse$Law", "readUnit", "(I)Z"⟩, 7), (⟨"SoarHouse$Law", "asked", "()I"⟩, 7), (⟨"SoarHouse$Plan", "liftOf", "(II)I"⟩, 15), (⟨"SoarHouse$Plan", "windIn", "(I)I"⟩, 15), (⟨"SoarHouse$Plan", "topIn", "(I)I"⟩, 15)]
theorem lw_r3 : ∀ q ∈ lw_privs_3, lw_okq q := List.forall_mem_cons.mpr ⟨lw_p32, List.forall_mem_cons.mpr ⟨lw_p33, List.forall_mem_cons.mpr ⟨lw_p34, List.forall_mem_cons.mpr ⟨lw_p35, List.forall_mem_cons.mpr ⟨lw_p36, List.forall_mem_cons.mpr ⟨lw_p37, List.forall_mem_cons.mpr ⟨lw_p38, List.forall_mem_cons.mpr ⟨lw_p39, List.forall_mem_cons.mpr ⟨lw_p40, List.forall_mem_cons.mpr ⟨lw_p41, List.forall_mem_cons.mpr ⟨lw_p42, List.forall_mem_cons.mpr ⟨lw_p43, List.forall_mem_cons.mpr ⟨lw_p44, List.forall_mem_cons.mpr ⟨lw_p45, List.forall_mem_cons.mpr ⟨lw_p46, List.forall_mem_cons.mpr ⟨lw_p47, fun _ h => absurd h List.not_mem_nil⟩⟩⟩⟩⟩⟩⟩⟩⟩⟩⟩⟩⟩⟩⟩⟩
theorem lw_p48 : lw_okq (⟨"SoarHouse$Plan", "ceilingOf", "(II)I"⟩, 15) := ⟨⟨by decide +kernel, by decide +kernel⟩, List.mem_of_getElem? (i := 74) (by decide +kernel), List.mem_of_getElem? (i := 851) (by decide +kernel), List.mem_of_getElem? (i := 852) (by decide +kernel)⟩
theorem lw_p49 : lw_okq (⟨"SoarHouse$Plan", "hasGlider", "(I)Z"⟩, 15) := ⟨⟨by decide +kernel, by decide +kernel⟩, List.mem_of_getElem? (i := 74) (by decide +kernel), List.mem_of_getElem? (i := 860) (by decide +kernel), List.mem_of_getElem? (i := 861) (by decide +kernel)⟩
theorem lw_p50 : lw_okq (⟨"SoarHouse$Plan", "moved", "(IIIII)I"⟩, 15) := ⟨⟨by decide +kernel, by decide +kernel⟩, List.mem_of_getElem? (i := 74) (by decide +kernel), List.mem_of_getElem? (i := 864) (by decide +kernel), List.mem_of_getElem? (i := 865) (by decide +kernel)⟩
theorem lw_p51 : lw_okq (⟨"SoarHouse$Plan", "gainOf", "(III)I"⟩, 15) := ⟨⟨by decide +kernel, by decide +kernel⟩, List.mem_of_getElem? (i := 74) (by decide +kernel), List.mem_of_getElem? (i := 868) (by decide +kernel), List.mem_of_getElem? (i := 869) (by decide +kernel)⟩
theorem lw_p52 : lw_okq (⟨"SoarHouse$Plan", "lossOf", "(IIII)I"⟩, 15) := ⟨⟨by decide +kernel, by decide +kernel⟩, List.mem_of_getElem? (i := 74) (by decide +kernel), List.mem_of_getElem? (i := 879) (by decide +kernel), List.mem_of_getElem? (i := 880) (by decide +kernel)⟩
theorem lw_p53 : lw_okq (⟨"SoarHouse$Course", "take", "(IIII)Z"⟩, 3) := ⟨⟨by decide +kernel, by decide +kernel⟩, List.mem_of_getElem? (i := 196) (by decide +kernel), List.mem_of_getElem? (i := 891) (by decide +kernel), List.mem_of_getElem? (i := 892) (by decide +kernel)⟩
theorem lw_p54 : lw_okq (⟨"SoarHouse$Course", "addPoint", "(I)V"⟩, 3) := ⟨⟨by decide +kernel, by decide +kernel⟩, List.mem_of_getElem? (i := 196) (by decide +kernel), List.mem_of_getElem? (i := 899) (by decide +kernel), List.mem_of_getElem? (i := 900) (by decide +kernel)⟩
theorem lw_p55 : lw_okq (⟨"SoarHouse", "fly", "(IIIII)Z"⟩, 16) := ⟨⟨by decide +kernel, by decide +kernel⟩, List.mem_of_getElem? (i := 25) (by decide +kernel), List.mem_of_getElem? (i := 907) (by decide +kernel), List.mem_of_getElem? (i := 908) (by decide +kernel)⟩
theorem lw_p56 : lw_okq (⟨"SoarHouse", "canBegin", "(IIII)Z"⟩, 16) := ⟨⟨by decide +kernel, by decide +kernel⟩, List.mem_of_getElem? (i := 25) (by decide +kernel), List.mem_of_getElem? (i := 911) (by decide +kernel), List.mem_of_getElem? (i := 912) (by decide +kernel)⟩
theorem lw_p57 : lw_okq (⟨"SoarHouse$Flight", "knows", "(IIIII)Z"⟩, 17) := ⟨⟨by decide +kernel, by decide +kernel⟩, List.mem_of_getElem? (i := 216) (by decide +kernel), List.mem_of_getElem? (i := 915) (by decide +kernel), List.mem_of_getElem? (i := 916) (by decide +kernel)⟩
theorem lw_p58 : lw_okq (⟨"SoarHouse$Flight", "ask", "(IIIII)V"⟩, 17) := ⟨⟨by decide +kernel, by decide +kernel⟩, List.mem_of_getElem? (i := 216) (by decide +kernel), List.mem_of_getElem? (i := 919) (by decide +kernel), List.mem_of_getElem? (i := 920) (by decide +kernel)⟩
theorem lw_p59 : lw_okq (⟨"SoarHouse$Flight", "search", "(LSoarHouse$Plan;LSoarHouse$Course;)V"⟩, 17) := ⟨⟨by decide +kernel, by decide +kernel⟩, List.mem_of_getElem? (i := 216) (by decide +kernel), List.mem_of_getElem? (i := 923) (by decide +kernel), List.mem_of_getElem? (i := 924) (by decide +kernel)⟩
theorem lw_p60 : lw_okq (⟨"SoarHouse$Flight", "begin", "(LSoarHouse$Plan;LSoarHouse$Course;)V"⟩, 17) := ⟨⟨by decide +kernel, by decide +kernel⟩, List.mem_of_getElem? (i := 216) (by decide +kernel), List.mem_of_getElem? (i := 927) (by decide +kernel), List.mem_of_getElem? (i := 928) (by decide +kernel)⟩
theorem lw_p61 : lw_okq (⟨"SoarHouse$Course", "roundedIn", "(II)I"⟩, 3) := ⟨⟨by decide +kernel, by decide +kernel⟩, List.mem_of_getElem? (i := 196) (by decide +kernel), List.mem_of_getElem? (i := 934) (by decide +kernel), List.mem_of_getElem? (i := 935) (by decide +kernel)⟩
theorem lw_p62 : lw_okq (⟨"SoarHouse$Flight", "spreadAll", "(IZ)V"⟩, 17) := ⟨⟨by decide +kernel, by decide +kernel⟩, List.mem_of_getElem? (i := 216) (by decide +kernel), List.mem_of_getElem? (i := 941) (by decide +kernel), List.mem_of_getElem? (i := 942) (by decide +kernel)⟩
theorem lw_p63 : lw_okq (⟨"SoarHouse$Flight", "readHour", "(I)V"⟩, 17) := ⟨⟨by decide +kernel, by decide +kernel⟩, List.mem_of_getElem? (i := 216) (by decide +kernel), List.mem_of_getElem? (i := 945) (by decide +kernel), List.mem_of_getElem? (i := 946) (by decide +kernel)⟩
def lw_privs_4 : List (MethodName × Nat) := [(⟨"SoarHouse$Plan", "ceilingOf", "(II)I"⟩, 15), (⟨"SoarHouse$Plan", "hasGlider", "(I)Z"⟩, 15), (⟨"SoarHouse$Plan", "moved", "(IIIII)I"⟩, 15), (⟨"SoarHouse$Plan", "gainOf", "(III)I"⟩, 15), (⟨"SoarHouse$Plan", "lossOf", "(IIII)I"⟩, 15), (⟨"SoarHouse$Course", "take", "(IIII)Z"⟩, 3), (⟨"SoarHouse$Course", "addPoint", "(I)V"⟩, 3), (⟨"SoarHouse", "fly", "(IIIII)Z"⟩, 16), (⟨"SoarHouse", "canBegin", "(IIII)Z"⟩, 16), (⟨"SoarHouse$Flight", "knows", "(IIIII)Z"⟩, 17), (⟨"SoarHouse$Flight", "ask", "(IIIII)V"⟩, 17), (⟨"SoarHouse$Flight", "search", "(LSoarHouse$Plan;LSoarHouse$Course;)V"⟩, 17), (⟨"SoarHouse$Flight", "begin", "(LSoarHouse$Plan;LSoarHouse$Course;)V"⟩, 17), (⟨"SoarHouse$Course", "roundedIn", "(II)I"⟩, 3), (⟨"SoarHouse$Flight", "spreadAll", "(IZ)V"⟩, 17), (⟨"SoarHouse$Flight", "readHour", "(I)V"⟩, 17)]
theorem lw_r4 : ∀ q ∈ lw_privs_4, lw_okq q := List.forall_mem_cons.mpr ⟨lw_p48, List.forall_mem_cons.mpr ⟨lw_p49, List.forall_mem_cons.mpr ⟨lw_p50, List.forall_mem_cons.mpr ⟨lw_p51, List.forall_mem_cons.mpr ⟨lw_p52, List.forall_mem_cons.mpr ⟨lw_p53, List.forall_mem_cons.mpr ⟨lw_p54, List.forall_mem_cons.mpr ⟨lw_p55, List.forall_mem_cons.mpr ⟨lw_p56, List.forall_mem_cons.mpr ⟨lw_p57, List.forall_mem_cons.mpr ⟨lw_p58, List.forall_mem_cons.mpr ⟨lw_p59, List.forall_mem_cons.mpr ⟨lw_p60, List.forall_mem_cons.mpr ⟨lw_p61, List.forall_mem_cons.mpr ⟨lw_p62, List.forall_mem_cons.mpr ⟨lw_p63, fun _ h => absurd h List.not_mem_nil⟩⟩⟩⟩⟩⟩⟩⟩⟩⟩⟩⟩⟩⟩⟩⟩
theorem lw_p64 : lw_okq (⟨"SoarHouse$Course", "turns", "()I"⟩, 3) := ⟨⟨by decide +kernel, by decide +kernel⟩, List.mem_of_getElem? (i := 196) (by decide +kernel), List.mem_of_getElem? (i := 952) (by decide +kernel), List.mem_of_getElem? (i := 953) (by decide +kernel)⟩
theorem lw_p65 : lw_okq (⟨"SoarHouse$Flight", "spread", "(IIIZ)V"⟩, 17) := ⟨⟨by decide +kernel, by decide +kernel⟩, List.mem_of_getElem? (i := 216) (by decide +kernel), List.mem_of_getElem? (i := 962) (by decide +kernel), List.mem_of_getElem? (i := 963) (by decide +kernel)⟩
theorem lw_p66 : lw_okq (⟨"SoarHouse$Flight", "circled", "(JI)J"⟩, 17) := ⟨⟨by decide +kernel, by decide +kernel⟩, List.mem_of_getElem? (i := 216) (by decide +kernel), List.mem_of_getElem? (i := 967) (by decide +kernel), List.mem_of_getElem? (i := 968) (by decide +kernel)⟩
theorem lw_p67 : lw_okq (⟨"SoarHouse$Flight", "isFlown", "(I)Z"⟩, 17) := ⟨⟨by decide +kernel, by decide +kernel⟩, List.mem_of_getElem? (i := 216) (by decide +kernel), List.mem_of_getElem? (i := 973) (by decide +kernel), List.mem_of_getElem? (i := 974) (by decide +kernel)⟩
theorem lw_p68 : lw_okq (⟨"SoarHouse$Flight", "finishing", "(I)J"⟩, 17) := ⟨⟨by decide +kernel, by decide +kernel⟩, List.mem_of_getElem? (i := 216) (by decide +kernel), List.mem_of_getElem? (i := 977) (by decide +kernel), List.mem_of_getElem? (i := 978) (by decide +kernel)⟩
theorem lw_p69 : lw_okq (⟨"SoarHouse$Course", "finish", "()I"⟩, 3) := ⟨⟨by decide +kernel, by decide +kernel⟩, List.mem_of_getElem? (i := 196) (by decide +kernel), List.mem_of_getElem? (i := 981) (by decide +kernel), List.mem_of_getElem? (i := 982) (by decide +kernel)⟩
theorem lw_p70 : lw_okq (⟨"SoarHouse$Flight", "keepWhatLeadsThere", "()V"⟩, 17) := ⟨⟨by decide +kernel, by decide +kernel⟩, List.mem_of_getElem? (i := 216) (by decide +kernel), List.mem_of_getElem? (i := 986) (by decide +kernel), List.mem_of_getElem? (i := 987) (by decide +kernel)⟩
theorem lw_p71 : lw_okq (⟨"SoarHouse$Flight", "leading", "(III)J"⟩, 17) := ⟨⟨by decide +kernel, by decide +kernel⟩, List.mem_of_getElem? (i := 216) (by decide +kernel), List.mem_of_getElem? (i := 990) (by decide +kernel), List.mem_of_getElem? (i := 991) (by decide +kernel)⟩
theorem lw_p72 : lw_okq (⟨"SoarHouse$Flight", "uncircled", "(JI)J"⟩, 17) := ⟨⟨by decide +kernel, by decide +kernel⟩, List.mem_of_getElem? (i := 216) (by decide +kernel), List.mem_of_getElem? (i := 994) (by decide +kernel), List.mem_of_getElem? (i := 995) (by decide +kernel)⟩
theorem lw_p73 : lw_okq (⟨"SoarHouse$Flight", "walk", "()V"⟩, 17) := ⟨⟨by decide +kernel, by decide +kernel⟩, List.mem_of_getElem? (i := 216) (by decide +kernel), List.mem_of_getElem? (i := 998) (by decide +kernel), List.mem_of_getElem? (i := 999) (by decide +kernel)⟩
theorem lw_p74 : lw_okq (⟨"SoarHouse$Flight", "firstLeading", "(IIII)I"⟩, 17) := ⟨⟨by decide +kernel, by decide +kernel⟩, List.mem_of_getElem? (i := 216) (by decide +kernel), List.mem_of_getElem? (i := 1002) (by decide +kernel), List.mem_of_getElem? (i := 1003) (by decide +kernel)⟩
theorem lw_p75 : lw_okq (⟨"SoarHouse$Flight", "leads", "(II)Z"⟩, 17) := ⟨⟨by decide +kernel, by decide +kernel⟩, List.mem_of_getElem? (i := 216) (by decide +kernel), List.mem_of_getElem? (i := 1007) (by decide +kernel), List.mem_of_getElem? (i := 1008) (by decide +kernel)⟩
theorem lw_p76 : lw_okq (⟨"SoarHouse$Flight", "fieldsInReach", "(LSoarHouse$Plan;IIII)I"⟩, 17) := ⟨⟨by decide +kernel, by decide +kernel⟩, List.mem_of_getElem? (i := 216) (by decide +kernel), List.mem_of_getElem? (i := 1019) (by decide +kernel), List.mem_of_getElem? (i := 1020) (by decide +kernel)⟩
theorem lw_p77 : lw_okq (⟨"SoarHouse$Flight", "cellsReached", "(I)J"⟩, 17) := ⟨⟨by decide +kernel, by decide +kernel⟩, List.mem_of_getElem? (i := 216) (by decide +kernel), List.mem_of_getElem? (i := 1023) (by decide +kernel), List.mem_of_getElem? (i := 1024) (by decide +kernel)⟩
theorem lw_p78 : lw_okq (⟨"SoarHouse$Launches", "equip", "(III)Z"⟩, 9) := ⟨⟨by decide +kernel, by decide +kernel⟩, List.mem_of_getElem? (i := 286) (by decide +kernel), List.mem_of_getElem? (i := 1037) (by decide +kernel), List.mem_of_getElem? (i := 1038) (by decide +kernel)⟩
theorem lw_p79 : lw_okq (⟨"SoarHouse$Launches", "ask", "(ZI)I"⟩, 9) := ⟨⟨by decide +kernel, by decide +kernel⟩, List.mem_of_getElem? (i := 286) (by decide +kernel), List.mem_of_getElem? (i := 1049) (by decide +kernel), List.mem_of_getElem? (i := 1050) (by decide +kernel)⟩
def lw_privs_5 : List (MethodName × Nat) := [(⟨"SoarHouse$Course", "turns", "()I"⟩, 3), (⟨"SoarHouse$Flight", "spread", "(IIIZ)V"⟩, 17), (⟨"SoarHouse$Flight", "circled", "(JI)J"⟩, 17), (⟨"SoarHouse$Flight", "isFlown", "(I)Z"⟩, 17), (⟨"SoarHouse$Flight", "finishing", "(I)J"⟩, 17), (⟨"SoarHouse$Course", "finish", "()I"⟩, 3), (⟨"SoarHouse$Flight", "keepWhatLeadsThere", "()V"⟩, 17), (⟨"SoarHouse$Flight", "leading", "(III)J"⟩, 17), (⟨"SoarHouse$Flight", "uncircled", "(JI)J"⟩, 17), (⟨"SoarHouse$Flight", "walk", "()V"⟩, 17), (⟨"SoarHouse$Flight", "firstLeading", "(IIII)I"⟩, 17), (⟨"SoarHouse$Flight", "leads", "(II)Z"⟩, 17), (⟨"SoarHouse$Flight", "fieldsInReach", "(LSoarHouse$Plan;IIII)I"⟩, 17), (⟨"SoarHouse$Flight", "cellsReached", "(I)J"⟩, 17), (⟨"SoarHouse$Launches", "equip", "(III)Z"⟩, 9), (⟨"SoarHouse$Launches", "ask", "(ZI)I"⟩, 9)]
theorem lw_r5 : ∀ q ∈ lw_privs_5, lw_okq q := List.forall_mem_cons.mpr ⟨lw_p64, List.forall_mem_cons.mpr ⟨lw_p65, List.forall_mem_cons.mpr ⟨lw_p66, List.forall_mem_cons.mpr ⟨lw_p67, List.forall_mem_cons.mpr ⟨lw_p68, List.forall_mem_cons.mpr ⟨lw_p69, List.forall_mem_cons.mpr ⟨lw_p70, List.forall_mem_cons.mpr ⟨lw_p71, List.forall_mem_cons.mpr ⟨lw_p72, List.forall_mem_cons.mpr ⟨lw_p73, List.forall_mem_cons.mpr ⟨lw_p74, List.forall_mem_cons.mpr ⟨lw_p75, List.forall_mem_cons.mpr ⟨lw_p76, List.forall_mem_cons.mpr ⟨lw_p77, List.forall_mem_cons.mpr ⟨lw_p78, List.forall_mem_cons.mpr ⟨lw_p79, fun _ h => absurd h List.not_mem_nil⟩⟩⟩⟩⟩⟩⟩⟩⟩⟩⟩⟩⟩⟩⟩⟩
theorem lw_p80 : lw_okq (⟨"SoarHouse$Launches", "firstFree", "()I"⟩, 9) := ⟨⟨by decide +kernel, by decide +kernel⟩, List.mem_of_getElem? (i := 286) (by decide +kernel), List.mem_of_getElem? (i := 1053) (by decide +kernel), List.mem_of_getElem? (i := 1054) (by decide +kernel)⟩
theorem lw_p81 : lw_okq (⟨"SoarHouse$Launches", "tell", "(II)I"⟩, 9) := ⟨⟨by decide +kernel, by decide +kernel⟩, List.mem_of_getElem? (i := 286) (by decide +kernel), List.mem_of_getElem? (i := 1062) (by decide +kernel), List.mem_of_getElem? (i := 1063) (by decide +kernel)⟩
theorem lw_p82 : lw_okq (⟨"SoarHouse$Traces", "addPilot", "(I)I"⟩, 10) := ⟨⟨by decide +kernel, by decide +kernel⟩, List.mem_of_getElem? (i := 321) (by decide +kernel), List.mem_of_getElem? (i := 1070) (by decide +kernel), List.mem_of_getElem? (i := 1071) (by decide +kernel)⟩
theorem lw_p83 : lw_okq (⟨"SoarHouse$Traces", "hasPilot", "(I)Z"⟩, 10) := ⟨⟨by decide +kernel, by decide +kernel⟩, List.mem_of_getElem? (i := 321) (by decide +kernel), List.mem_of_getElem? (i := 1078) (by decide +kernel), List.mem_of_getElem? (i := 1079) (by decide +kernel)⟩
theorem lw_p84 : lw_okq (⟨"SoarHouse$Traces", "addFix", "(IIII)I"⟩, 10) := ⟨⟨by decide +kernel, by decide +kernel⟩, List.mem_of_getElem? (i := 321) (by decide +kernel), List.mem_of_getElem? (i := 1082) (by decide +kernel), List.mem_of_getElem? (i := 1083) (by decide +kernel)⟩
theorem lw_p85 : lw_okq (⟨"SoarHouse$Traces", "takeBack", "(I)Z"⟩, 10) := ⟨⟨by decide +kernel, by decide +kernel⟩, List.mem_of_getElem? (i := 321) (by decide +kernel), List.mem_of_getElem? (i := 1090) (by decide +kernel), List.mem_of_getElem? (i := 1091) (by decide +kernel)⟩
theorem lw_p86 : lw_okq (⟨"SoarHouse$Traces", "goOn", "(I)I"⟩, 10) := ⟨⟨by decide +kernel, by decide +kernel⟩, List.mem_of_getElem? (i := 321) (by decide +kernel), List.mem_of_getElem? (i := 1098) (by decide +kernel), List.mem_of_getElem? (i := 1099) (by decide +kernel)⟩
theorem lw_p87 : lw_okq (⟨"SoarHouse", "canJudge", "(I)Z"⟩, 16) := ⟨⟨by decide +kernel, by decide +kernel⟩, List.mem_of_getElem? (i := 25) (by decide +kernel), List.mem_of_getElem? (i := 1111) (by decide +kernel), List.mem_of_getElem? (i := 1112) (by decide +kernel)⟩
theorem lw_p88 : lw_okq (⟨"SoarHouse$Trace", "gather", "(LSoarHouse$Traces;II)V"⟩, 7) := ⟨⟨by decide +kernel, by decide +kernel⟩, List.mem_of_getElem? (i := 368) (by decide +kernel), List.mem_of_getElem? (i := 1115) (by decide +kernel), List.mem_of_getElem? (i := 1116) (by decide +kernel)⟩
theorem lw_p89 : lw_okq (⟨"SoarHouse$Traces", "counts", "(II)Z"⟩, 10) := ⟨⟨by decide +kernel, by decide +kernel⟩, List.mem_of_getElem? (i := 321) (by decide +kernel), List.mem_of_getElem? (i := 1120) (by decide +kernel), List.mem_of_getElem? (i := 1121) (by decide +kernel)⟩
theorem lw_p90 : lw_okq (⟨"SoarHouse$Trace", "mostRounded", "(LSoarHouse$Course;)I"⟩, 7) := ⟨⟨by decide +kernel, by decide +kernel⟩, List.mem_of_getElem? (i := 368) (by decide +kernel), List.mem_of_getElem? (i := 1124) (by decide +kernel), List.mem_of_getElem? (i := 1125) (by decide +kernel)⟩
theorem lw_p91 : lw_okq (⟨"SoarHouse$Trace", "roundedAt", "(LSoarHouse$Course;II)I"⟩, 7) := ⟨⟨by decide +kernel, by decide +kernel⟩, List.mem_of_getElem? (i := 368) (by decide +kernel), List.mem_of_getElem? (i := 1128) (by decide +kernel), List.mem_of_getElem? (i := 1129) (by decide +kernel)⟩
theorem lw_p92 : lw_okq (⟨"SoarHouse$Trace", "canRoundBehind", "(LSoarHouse$Course;II)Z"⟩, 7) := ⟨⟨by decide +kernel, by decide +kernel⟩, List.mem_of_getElem? (i := 368) (by decide +kernel), List.mem_of_getElem? (i := 1139) (by decide +kernel), List.mem_of_getElem? (i := 1140) (by decide +kernel)⟩
theorem lw_p93 : lw_okq (⟨"SoarHouse$Trace", "roundLeast", "(LSoarHouse$Course;)V"⟩, 7) := ⟨⟨by decide +kernel, by decide +kernel⟩, List.mem_of_getElem? (i := 368) (by decide +kernel), List.mem_of_getElem? (i := 1144) (by decide +kernel), List.mem_of_getElem? (i := 1145) (by decide +kernel)⟩
theorem lw_p94 : lw_okq (⟨"SoarHouse$Trace", "doneOn", "(LSoarHouse$Course;)I"⟩, 7) := ⟨⟨by decide +kernel, by decide +kernel⟩, List.mem_of_getElem? (i := 368) (by decide +kernel), List.mem_of_getElem? (i := 1152) (by decide +kernel), List.mem_of_getElem? (i := 1153) (by decide +kernel)⟩
theorem lw_p95 : lw_okq (⟨"SoarHouse$Trace", "legsUpTo", "(LSoarHouse$Course;I)I"⟩, 7) := ⟨⟨by decide +kernel, by decide +kernel⟩, List.mem_of_getElem? (i := 368) (by decide +kernel), List.mem_of_getElem? (i := 1156) (by decide +kernel), List.mem_of_getElem? (i := 1157) (by decide +kernel)⟩
def lw_privs_6 : List (MethodName × Nat) := [(⟨"SoarHouse$Launches", "firstFree", "()I"⟩, 9), (⟨"SoarHouse$Launches", "tell", "(II)I"⟩, 9), (⟨"SoarHouse$Traces", "addPilot", "(I)I"⟩, 10), (⟨"SoarHouse$Traces", "hasPilot", "(I)Z"⟩, 10), (⟨"SoarHouse$Traces", "addFix", "(IIII)I"⟩, 10), (⟨"SoarHouse$Traces", "takeBack", "(I)Z"⟩, 10), (⟨"SoarHouse$Traces", "goOn", "(I)I"⟩, 10), (⟨"SoarHouse", "canJudge", "(I)Z"⟩, 16), (⟨"SoarHouse$Trace", "gather", "(LSoarHouse$Traces;II)V"⟩, 7), (⟨"SoarHouse$Traces", "counts", "(II)Z"⟩, 10), (⟨"SoarHouse$Trace", "mostRounded", "(LSoarHouse$Course;)I"⟩, 7), (⟨"SoarHouse$Trace", "roundedAt", "(LSoarHouse$Course;II)I"⟩, 7), (⟨"SoarHouse$Trace", "canRoundBehind", "(LSoarHouse$Course;II)Z"⟩, 7), (⟨"SoarHouse$Trace", "roundLeast", "(LSoarHouse$Course;)V"⟩, 7), (⟨"SoarHouse$Trace", "doneOn", "(LSoarHouse$Course;)I"⟩, 7), (⟨"SoarHouse$Trace", "legsUpTo", "(LSoarHouse$Course;I)I"⟩, 7)]
theorem lw_r6 : ∀ q ∈ lw_privs_6, lw_okq q := List.forall_mem_cons.mpr ⟨lw_p80, List.forall_mem_cons.mpr ⟨lw_p81, List.forall_mem_cons.mpr ⟨lw_p82, List.forall_mem_cons.mpr ⟨lw_p83, List.forall_mem_cons.mpr ⟨lw_p84, List.forall_mem_cons.mpr ⟨lw_p85, List.forall_mem_cons.mpr ⟨lw_p86, List.forall_mem_cons.mpr ⟨lw_p87, List.forall_mem_cons.mpr ⟨lw_p88, List.forall_mem_cons.mpr ⟨lw_p89, List.forall_mem_cons.mpr ⟨lw_p90, List.forall_mem_cons.mpr ⟨lw_p91, List.forall_mem_cons.mpr ⟨lw_p92, List.forall_mem_cons.mpr ⟨lw_p93, List.forall_mem_cons.mpr ⟨lw_p94, List.forall_mem_cons.mpr ⟨lw_p95, fun _ h => absurd h List.not_mem_nil⟩⟩⟩⟩⟩⟩⟩⟩⟩⟩⟩⟩⟩⟩⟩⟩
theorem lw_p96 : lw_okq (⟨"SoarHouse$Trace", "legOf", "(LSoarHouse$Course;I)I"⟩, 7) := ⟨⟨by decide +kernel, by decide +kernel⟩, List.mem_of_getElem? (i := 368) (by decide +kernel), List.mem_of_getElem? (i := 1160) (by decide +kernel), List.mem_of_getElem? (i := 1161) (by decide +kernel)⟩
theorem lw_p97 : lw_okq (⟨"SoarHouse$Trace", "legsOf", "(LSoarHouse$Course;)I"⟩, 7) := ⟨⟨by decide +kernel, by decide +kernel⟩, List.mem_of_getElem? (i := 368) (by decide +kernel), List.mem_of_getElem? (i := 1165) (by decide +kernel), List.mem_of_getElem? (i := 1166) (by decide +kernel)⟩
theorem lw_p98 : lw_okq (⟨"SoarHouse$Trace", "timeOn", "(LSoarHouse$Course;)I"⟩, 7) := ⟨⟨by decide +kernel, by decide +kernel⟩, List.mem_of_getElem? (i := 368) (by decide +kernel), List.mem_of_getElem? (i := 1169) (by decide +kernel), List.mem_of_getElem? (i := 1170) (by decide +kernel)⟩
theorem lw_p99 : lw_okq (⟨"SoarHouse$Trace", "hasAll", "(LSoarHouse$Course;)Z"⟩, 7) := ⟨⟨by decide +kernel, by decide +kernel⟩, List.mem_of_getElem? (i := 368) (by decide +kernel), List.mem_of_getElem? (i := 1173) (by decide +kernel), List.mem_of_getElem? (i := 1174) (by decide +kernel)⟩
theorem lw_p100 : lw_okq (⟨"SoarHouse$Trace", "wallsForSure", "(LSoarHouse$Plan;)I"⟩, 7) := ⟨⟨by decide +kernel, by decide +kernel⟩, List.mem_of_getElem? (i := 368) (by decide +kernel), List.mem_of_getElem? (i := 1177) (by decide +kernel), List.mem_of_getElem? (i := 1178) (by decide +kernel)⟩
theorem lw_p101 : lw_okq (⟨"SoarHouse$Plan", "wallCell", "(I)I"⟩, 15) := ⟨⟨by decide +kernel, by decide +kernel⟩, List.mem_of_getElem? (i := 74) (by decide +kernel), List.mem_of_getElem? (i := 1181) (by decide +kernel), List.mem_of_getElem? (i := 1182) (by decide +kernel)⟩
theorem lw_p102 : lw_okq (⟨"SoarHouse$Plan", "wallAbove", "(I)I"⟩, 15) := ⟨⟨by decide +kernel, by decide +kernel⟩, List.mem_of_getElem? (i := 74) (by decide +kernel), List.mem_of_getElem? (i := 1185) (by decide +kernel), List.mem_of_getElem? (i := 1186) (by decide +kernel)⟩
theorem lw_p103 : lw_okq (⟨"SoarHouse$Plan", "wallHas", "(II)Z"⟩, 15) := ⟨⟨by decide +kernel, by decide +kernel⟩, List.mem_of_getElem? (i := 74) (by decide +kernel), List.mem_of_getElem? (i := 1189) (by decide +kernel), List.mem_of_getElem? (i := 1190) (by decide +kernel)⟩
theorem lw_p104 : lw_okq (⟨"SoarHouse$Trace", "wallsMaybe", "(LSoarHouse$Plan;)I"⟩, 7) := ⟨⟨by decide +kernel, by decide +kernel⟩, List.mem_of_getElem? (i := 368) (by decide +kernel), List.mem_of_getElem? (i := 1193) (by decide +kernel), List.mem_of_getElem? (i := 1194) (by decide +kernel)⟩
theorem lw_p105 : lw_okq (⟨"SoarHouse$Trace", "canEnterBehind", "(LSoarHouse$Plan;II)Z"⟩, 7) := ⟨⟨by decide +kernel, by decide +kernel⟩, List.mem_of_getElem? (i := 368) (by decide +kernel), List.mem_of_getElem? (i := 1197) (by decide +kernel), List.mem_of_getElem? (i := 1198) (by decide +kernel)⟩
theorem lw_p106 : lw_okq (⟨"SoarHouse$Scores", "weigh", "(LSoarHouse$Plan;LSoarHouse$Course;LSoarHouse$Traces;LSoarHouse$Trace;I)V"⟩, 1) := ⟨⟨by decide +kernel, by decide +kernel⟩, List.mem_of_getElem? (i := 399) (by decide +kernel), List.mem_of_getElem? (i := 1206) (by decide +kernel), List.mem_of_getElem? (i := 1207) (by decide +kernel)⟩
theorem lw_p107 : lw_okq (⟨"SoarHouse$Plan", "handicapOf", "(I)I"⟩, 15) := ⟨⟨by decide +kernel, by decide +kernel⟩, List.mem_of_getElem? (i := 74) (by decide +kernel), List.mem_of_getElem? (i := 1222) (by decide +kernel), List.mem_of_getElem? (i := 1223) (by decide +kernel)⟩
theorem lw_p108 : lw_okq (⟨"SoarHouse$Scores", "scoreOf", "(LSoarHouse$Law;I)I"⟩, 1) := ⟨⟨by decide +kernel, by decide +kernel⟩, List.mem_of_getElem? (i := 399) (by decide +kernel), List.mem_of_getElem? (i := 1229) (by decide +kernel), List.mem_of_getElem? (i := 1230) (by decide +kernel)⟩
theorem lw_p109 : lw_okq (⟨"SoarHouse$Law", "valueOf", "([II)I"⟩, 7) := ⟨⟨by decide +kernel, by decide +kernel⟩, List.mem_of_getElem? (i := 167) (by decide +kernel), List.mem_of_getElem? (i := 1233) (by decide +kernel), List.mem_of_getElem? (i := 1234) (by decide +kernel)⟩
theorem lw_p110 : lw_okq (⟨"SoarHouse$Scores", "rankOf", "(LSoarHouse$Law;II)I"⟩, 1) := ⟨⟨by decide +kernel, by decide +kernel⟩, List.mem_of_getElem? (i := 399) (by decide +kernel), List.mem_of_getElem? (i := 1244) (by decide +kernel), List.mem_of_getElem? (i := 1245) (by decide +kernel)⟩
theorem lw_p111 : lw_okq (⟨"SoarHouse$Trailers", "lay", "(I)I"⟩, 7) := ⟨⟨by decide +kernel, by decide +kernel⟩, List.mem_of_getElem? (i := 409) (by decide +kernel), List.mem_of_getElem? (i := 1253) (by decide +kernel), List.mem_of_getElem? (i := 1254) (by decide +kernel)⟩
def lw_privs_7 : List (MethodName × Nat) := [(⟨"SoarHouse$Trace", "legOf", "(LSoarHouse$Course;I)I"⟩, 7), (⟨"SoarHouse$Trace", "legsOf", "(LSoarHouse$Course;)I"⟩, 7), (⟨"SoarHouse$Trace", "timeOn", "(LSoarHouse$Course;)I"⟩, 7), (⟨"SoarHouse$Trace", "hasAll", "(LSoarHouse$Course;)Z"⟩, 7), (⟨"SoarHouse$Trace", "wallsForSure", "(LSoarHouse$Plan;)I"⟩, 7), (⟨"SoarHouse$Plan", "wallCell", "(I)I"⟩, 15), (⟨"SoarHouse$Plan", "wallAbove", "(I)I"⟩, 15), (⟨"SoarHouse$Plan", "wallHas", "(II)Z"⟩, 15), (⟨"SoarHouse$Trace", "wallsMaybe", "(LSoarHouse$Plan;)I"⟩, 7), (⟨"SoarHouse$Trace", "canEnterBehind", "(LSoarHouse$Plan;II)Z"⟩, 7), (⟨"SoarHouse$Scores", "weigh", "(LSoarHouse$Plan;LSoarHouse$Course;LSoarHouse$Traces;LSoarHouse$Trace;I)V"⟩, 1), (⟨"SoarHouse$Plan", "handicapOf", "(I)I"⟩, 15), (⟨"SoarHouse$Scores", "scoreOf", "(LSoarHouse$Law;I)I"⟩, 1), (⟨"SoarHouse$Law", "valueOf", "([II)I"⟩, 7), (⟨"SoarHouse$Scores", "rankOf", "(LSoarHouse$Law;II)I"⟩, 1), (⟨"SoarHouse$Trailers", "lay", "(I)I"⟩, 7)]
theorem lw_r7 : ∀ q ∈ lw_privs_7, lw_okq q := List.forall_mem_cons.mpr ⟨lw_p96, List.forall_mem_cons.mpr ⟨lw_p97, List.forall_mem_cons.mpr ⟨lw_p98, List.forall_mem_cons.mpr ⟨lw_p99, List.forall_mem_cons.mpr ⟨lw_p100, List.forall_mem_cons.mpr ⟨lw_p101, List.forall_mem_cons.mpr ⟨lw_p102, List.forall_mem_cons.mpr ⟨lw_p103, List.forall_mem_cons.mpr ⟨lw_p104, List.forall_mem_cons.mpr ⟨lw_p105, List.forall_mem_cons.mpr ⟨lw_p106, List.forall_mem_cons.mpr ⟨lw_p107, List.forall_mem_cons.mpr ⟨lw_p108, List.forall_mem_cons.mpr ⟨lw_p109, List.forall_mem_cons.mpr ⟨lw_p110, List.forall_mem_cons.mpr ⟨lw_p111, fun _ h => absurd h List.not_mem_nil⟩⟩⟩⟩⟩⟩⟩⟩⟩⟩⟩⟩⟩⟩⟩⟩
theorem lw_p112 : lw_okq (⟨"SoarHouse$Trailers", "minutesBetween", "(LSoarHouse$Plan;II)I"⟩, 7) := ⟨⟨by decide +kernel, by decide +kernel⟩, List.mem_of_getElem? (i := 409) (by decide +kernel), List.mem_of_getElem? (i := 1265) (by decide +kernel), List.mem_of_getElem? (i := 1266) (by decide +kernel)⟩
theorem lw_p113 : lw_okq (⟨"SoarHouse$Trailers", "measure", "(LSoarHouse$Plan;I)V"⟩, 7) := ⟨⟨by decide +kernel, by decide +kernel⟩, List.mem_of_getElem? (i := 409) (by decide +kernel), List.mem_of_getElem? (i := 1269) (by decide +kernel), List.mem_of_getElem? (i := 1270) (by decide +kernel)⟩
theorem lw_p114 : lw_okq (⟨"SoarHouse", "bringHome", "(II)Z"⟩, 16) := ⟨⟨by decide +kernel, by decide +kernel⟩, List.mem_of_getElem? (i := 25) (by decide +kernel), List.mem_of_getElem? (i := 1279) (by decide +kernel), List.mem_of_getElem? (i := 1280) (by decide +kernel)⟩
theorem lw_p115 : lw_okq (⟨"SoarHouse$Trailers", "share", "(LSoarHouse$Plan;II)Z"⟩, 7) := ⟨⟨by decide +kernel, by decide +kernel⟩, List.mem_of_getElem? (i := 409) (by decide +kernel), List.mem_of_getElem? (i := 1283) (by decide +kernel), List.mem_of_getElem? (i := 1284) (by decide +kernel)⟩
theorem lw_p116 : lw_okq (⟨"SoarHouse$Trailers", "give", "(III)V"⟩, 7) := ⟨⟨by decide +kernel, by decide +kernel⟩, List.mem_of_getElem? (i := 409) (by decide +kernel), List.mem_of_getElem? (i := 1287) (by decide +kernel), List.mem_of_getElem? (i := 1288) (by decide +kernel)⟩
theorem lw_p117 : lw_okq (⟨"SoarHouseModel", "beginMap", "()V"⟩, 100) := ⟨⟨by decide +kernel, by decide +kernel⟩, List.mem_of_getElem? (i := 1304) (by decide +kernel), List.mem_of_getElem? (i := 1312) (by decide +kernel), List.mem_of_getElem? (i := 1313) (by decide +kernel)⟩
theorem lw_p118 : lw_okq (⟨"SoarHouseModel", "measure", "()V"⟩, 100) := ⟨⟨by decide +kernel, by decide +kernel⟩, List.mem_of_getElem? (i := 1304) (by decide +kernel), List.mem_of_getElem? (i := 1316) (by decide +kernel), List.mem_of_getElem? (i := 1317) (by decide +kernel)⟩
theorem lw_p119 : lw_okq (⟨"SoarHouseModel", "takeTape", "()V"⟩, 100) := ⟨⟨by decide +kernel, by decide +kernel⟩, List.mem_of_getElem? (i := 1304) (by decide +kernel), List.mem_of_getElem? (i := 1627) (by decide +kernel), List.mem_of_getElem? (i := 1628) (by decide +kernel)⟩
theorem lw_p120 : lw_okq (⟨"SoarHouseModel", "next", "()V"⟩, 100) := ⟨⟨by decide +kernel, by decide +kernel⟩, List.mem_of_getElem? (i := 1304) (by decide +kernel), List.mem_of_getElem? (i := 1631) (by decide +kernel), List.mem_of_getElem? (i := 1632) (by decide +kernel)⟩
theorem lw_p121 : lw_okq (⟨"SoarHouseModel", "sign", "(I)I"⟩, 100) := ⟨⟨by decide +kernel, by decide +kernel⟩, List.mem_of_getElem? (i := 1304) (by decide +kernel), List.mem_of_getElem? (i := 1635) (by decide +kernel), List.mem_of_getElem? (i := 1636) (by decide +kernel)⟩
theorem lw_p122 : lw_okq (⟨"SoarHouseModel", "isGood", "()Z"⟩, 100) := ⟨⟨by decide +kernel, by decide +kernel⟩, List.mem_of_getElem? (i := 1304) (by decide +kernel), List.mem_of_getElem? (i := 1675) (by decide +kernel), List.mem_of_getElem? (i := 1676) (by decide +kernel)⟩
theorem lw_p123 : lw_okq (⟨"SoarHouseModel", "readLine", "()V"⟩, 100) := ⟨⟨by decide +kernel, by decide +kernel⟩, List.mem_of_getElem? (i := 1304) (by decide +kernel), List.mem_of_getElem? (i := 1679) (by decide +kernel), List.mem_of_getElem? (i := 1680) (by decide +kernel)⟩
theorem lw_p124 : lw_okq (⟨"SoarHouseModel", "isWord", "(J)Z"⟩, 100) := ⟨⟨by decide +kernel, by decide +kernel⟩, List.mem_of_getElem? (i := 1304) (by decide +kernel), List.mem_of_getElem? (i := 1683) (by decide +kernel), List.mem_of_getElem? (i := 1684) (by decide +kernel)⟩
theorem lw_p125 : lw_okq (⟨"SoarHouseModel", "wrong", "()V"⟩, 100) := ⟨⟨by decide +kernel, by decide +kernel⟩, List.mem_of_getElem? (i := 1304) (by decide +kernel), List.mem_of_getElem? (i := 1687) (by decide +kernel), List.mem_of_getElem? (i := 1688) (by decide +kernel)⟩
theorem lw_p126 : lw_okq (⟨"SoarHouseModel", "fails", "(II)V"⟩, 100) := ⟨⟨by decide +kernel, by decide +kernel⟩, List.mem_of_getElem? (i := 1304) (by decide +kernel), List.mem_of_getElem? (i := 1691) (by decide +kernel), List.mem_of_getElem? (i := 1692) (by decide +kernel)⟩
theorem lw_p127 : lw_okq (⟨"SoarHouseModel", "readWall", "()V"⟩, 100) := ⟨⟨by decide +kernel, by decide +kernel⟩, List.mem_of_getElem? (i := 1304) (by decide +kernel), List.mem_of_getElem? (i := 1695) (by decide +kernel), List.mem_of_getElem? (i := 1696) (by decide +kernel)⟩
def lw_privs_8 : List (MethodName × Nat) := [(⟨"SoarHouse$Trailers", "minutesBetween", "(LSoarHouse$Plan;II)I"⟩, 7), (⟨"SoarHouse$Trailers", "measure", "(LSoarHouse$Plan;I)V"⟩, 7), (⟨"SoarHouse", "bringHome", "(II)Z"⟩, 16), (⟨"SoarHouse$Trailers", "share", "(LSoarHouse$Plan;II)Z"⟩, 7), (⟨"SoarHouse$Trailers", "give", "(III)V"⟩, 7), (⟨"SoarHouseModel", "beginMap", "()V"⟩, 100), (⟨"SoarHouseModel", "measure", "()V"⟩, 100), (⟨"SoarHouseModel", "takeTape", "()V"⟩, 100), (⟨"SoarHouseModel", "next", "()V"⟩, 100), (⟨"SoarHouseModel", "sign", "(I)I"⟩, 100), (⟨"SoarHouseModel", "isGood", "()Z"⟩, 100), (⟨"SoarHouseModel", "readLine", "()V"⟩, 100), (⟨"SoarHouseModel", "isWord", "(J)Z"⟩, 100), (⟨"SoarHouseModel", "wrong", "()V"⟩, 100), (⟨"SoarHouseModel", "fails", "(II)V"⟩, 100), (⟨"SoarHouseModel", "readWall", "()V"⟩, 100)]
theorem lw_r8 : ∀ q ∈ lw_privs_8, lw_okq q := List.forall_mem_cons.mpr ⟨lw_p112, List.forall_mem_cons.mpr ⟨lw_p113, List.forall_mem_cons.mpr ⟨lw_p114, List.forall_mem_cons.mpr ⟨lw_p115, List.forall_mem_cons.mpr ⟨lw_p116, List.forall_mem_cons.mpr ⟨lw_p117, List.forall_mem_cons.mpr ⟨lw_p118, List.forall_mem_cons.mpr ⟨lw_p119, List.forall_mem_cons.mpr ⟨lw_p120, List.forall_mem_cons.mpr ⟨lw_p121, List.forall_mem_cons.mpr ⟨lw_p122, List.forall_mem_cons.mpr ⟨lw_p123, List.forall_mem_cons.mpr ⟨lw_p124, List.forall_mem_cons.mpr ⟨lw_p125, List.forall_mem_cons.mpr ⟨lw_p126, List.forall_mem_cons.mpr ⟨lw_p127, fun _ h => absurd h List.not_mem_nil⟩⟩⟩⟩⟩⟩⟩⟩⟩⟩⟩⟩⟩⟩⟩⟩
theorem lw_p128 : lw_okq (⟨"SoarHouseModel", "cell", "()I"⟩, 100) := ⟨⟨by decide +kernel, by decide +kernel⟩, List.mem_of_getElem? (i := 1304) (by decide +kernel), List.mem_of_getElem? (i := 1699) (by decide +kernel), List.mem_of_getElem? (i := 1700) (by decide +kernel)⟩
theorem lw_p129 : lw_okq (⟨"SoarHouseModel", "numeral", "(II)I"⟩, 100) := ⟨⟨by decide +kernel, by decide +kernel⟩, List.mem_of_getElem? (i := 1304) (by decide +kernel), List.mem_of_getElem? (i := 1703) (by decide +kernel), List.mem_of_getElem? (i := 1704) (by decide +kernel)⟩
theorem lw_p130 : lw_okq (⟨"SoarHouseModel", "must", "(Z)V"⟩, 100) := ⟨⟨by decide +kernel, by decide +kernel⟩, List.mem_of_getElem? (i := 1304) (by decide +kernel), List.mem_of_getElem? (i := 1707) (by decide +kernel), List.mem_of_getElem? (i := 1708) (by decide +kernel)⟩
theorem lw_p131 : lw_okq (⟨"SoarHouseModel", "readRoad", "()V"⟩, 100) := ⟨⟨by decide +kernel, by decide +kernel⟩, List.mem_of_getElem? (i := 1304) (by decide +kernel), List.mem_of_getElem? (i := 1711) (by decide +kernel), List.mem_of_getElem? (i := 1712) (by decide +kernel)⟩
theorem lw_p132 : lw_okq (⟨"SoarHouseModel", "readGlider", "()V"⟩, 100) := ⟨⟨by decide +kernel, by decide +kernel⟩, List.mem_of_getElem? (i := 1304) (by decide +kernel), List.mem_of_getElem? (i := 1715) (by decide +kernel), List.mem_of_getElem? (i := 1716) (by decide +kernel)⟩
theorem lw_p133 : lw_okq (⟨"SoarHouseModel", "readRow", "()V"⟩, 100) := ⟨⟨by decide +kernel, by decide +kernel⟩, List.mem_of_getElem? (i := 1304) (by decide +kernel), List.mem_of_getElem? (i := 1719) (by decide +kernel), List.mem_of_getElem? (i := 1720) (by decide +kernel)⟩
theorem lw_p134 : lw_okq (⟨"SoarHouseModel", "fresh", "(I[Z)I"⟩, 100) := ⟨⟨by decide +kernel, by decide +kernel⟩, List.mem_of_getElem? (i := 1304) (by decide +kernel), List.mem_of_getElem? (i := 1723) (by decide +kernel), List.mem_of_getElem? (i := 1724) (by decide +kernel)⟩
theorem lw_p135 : lw_okq (⟨"SoarHouseModel", "isGrounds", "(I)Z"⟩, 100) := ⟨⟨by decide +kernel, by decide +kernel⟩, List.mem_of_getElem? (i := 1304) (by decide +kernel), List.mem_of_getElem? (i := 1727) (by decide +kernel), List.mem_of_getElem? (i := 1728) (by decide +kernel)⟩
theorem lw_p136 : lw_okq (⟨"SoarHouseModel", "isGround", "(I)Z"⟩, 100) := ⟨⟨by decide +kernel, by decide +kernel⟩, List.mem_of_getElem? (i := 1304) (by decide +kernel), List.mem_of_getElem? (i := 1731) (by decide +kernel), List.mem_of_getElem? (i := 1732) (by decide +kernel)⟩
theorem lw_p137 : lw_okq (⟨"SoarHouseModel", "readLift", "()V"⟩, 100) := ⟨⟨by decide +kernel, by decide +kernel⟩, List.mem_of_getElem? (i := 1304) (by decide +kernel), List.mem_of_getElem? (i := 1735) (by decide +kernel), List.mem_of_getElem? (i := 1736) (by decide +kernel)⟩
theorem lw_p138 : lw_okq (⟨"SoarHouseModel", "readWind", "()V"⟩, 100) := ⟨⟨by decide +kernel, by decide +kernel⟩, List.mem_of_getElem? (i := 1304) (by decide +kernel), List.mem_of_getElem? (i := 1739) (by decide +kernel), List.mem_of_getElem? (i := 1740) (by decide +kernel)⟩
theorem lw_p139 : lw_okq (⟨"SoarHouseModel", "hourFor", "([I)I"⟩, 100) := ⟨⟨by decide +kernel, by decide +kernel⟩, List.mem_of_getElem? (i := 1304) (by decide +kernel), List.mem_of_getElem? (i := 1743) (by decide +kernel), List.mem_of_getElem? (i := 1744) (by decide +kernel)⟩
theorem lw_p140 : lw_okq (⟨"SoarHouseModel", "readTop", "()V"⟩, 100) := ⟨⟨by decide +kernel, by decide +kernel⟩, List.mem_of_getElem? (i := 1304) (by decide +kernel), List.mem_of_getElem? (i := 1747) (by decide +kernel), List.mem_of_getElem? (i := 1748) (by decide +kernel)⟩
theorem lw_p141 : lw_okq (⟨"SoarHouseModel", "readField", "()V"⟩, 100) := ⟨⟨by decide +kernel, by decide +kernel⟩, List.mem_of_getElem? (i := 1304) (by decide +kernel), List.mem_of_getElem? (i := 1751) (by decide +kernel), List.mem_of_getElem? (i := 1752) (by decide +kernel)⟩
theorem lw_p142 : lw_okq (⟨"SoarHouseModel", "is", "(I)Z"⟩, 100) := ⟨⟨by decide +kernel, by decide +kernel⟩, List.mem_of_getElem? (i := 1304) (by decide +kernel), List.mem_of_getElem? (i := 1755) (by decide +kernel), List.mem_of_getElem? (i := 1756) (by decide +kernel)⟩
theorem lw_p143 : lw_okq (⟨"SoarHouseModel", "liftOf", "(II)I"⟩, 100) := ⟨⟨by decide +kernel, by decide +kernel⟩, List.mem_of_getElem? (i := 1304) (by decide +kernel), List.mem_of_getElem? (i := 1773) (by decide +kernel), List.mem_of_getElem? (i := 1774) (by decide +kernel)⟩
def lw_privs_9 : List (MethodName × Nat) := [(⟨"SoarHouseModel", "cell", "()I"⟩, 100), (⟨"SoarHouseModel", "numeral", "(II)I"⟩, 100), (⟨"SoarHouseModel", "must", "(Z)V"⟩, 100), (⟨"SoarHouseModel", "readRoad", "()V"⟩, 100), (⟨"SoarHouseModel", "readGlider", "()V"⟩, 100), (⟨"SoarHouseModel", "readRow", "()V"⟩, 100), (⟨"SoarHouseModel", "fresh", "(I[Z)I"⟩, 100), (⟨"SoarHouseModel", "isGrounds", "(I)Z"⟩, 100), (⟨"SoarHouseModel", "isGround", "(I)Z"⟩, 100), (⟨"SoarHouseModel", "readLift", "()V"⟩, 100), (⟨"SoarHouseModel", "readWind", "()V"⟩, 100), (⟨"SoarHouseModel", "hourFor", "([I)I"⟩, 100), (⟨"SoarHouseModel", "readTop", "()V"⟩, 100), (⟨"SoarHouseModel", "readField", "()V"⟩, 100), (⟨"SoarHouseModel", "is", "(I)Z"⟩, 100), (⟨"SoarHouseModel", "liftOf", "(II)I"⟩, 100)]
theorem lw_r9 : ∀ q ∈ lw_privs_9, lw_okq q := List.forall_mem_cons.mpr ⟨lw_p128, List.forall_mem_cons.mpr ⟨lw_p129, List.forall_mem_cons.mpr ⟨lw_p130, List.forall_mem_cons.mpr ⟨lw_p131, List.forall_mem_cons.mpr ⟨lw_p132, List.forall_mem_cons.mpr ⟨lw_p133, List.forall_mem_cons.mpr ⟨lw_p134, List.forall_mem_cons.mpr ⟨lw_p135, List.forall_mem_cons.mpr ⟨lw_p136, List.forall_mem_cons.mpr ⟨lw_p137, List.forall_mem_cons.mpr ⟨lw_p138, List.forall_mem_cons.mpr ⟨lw_p139, List.forall_mem_cons.mpr ⟨lw_p140, List.forall_mem_cons.mpr ⟨lw_p141, List.forall_mem_cons.mpr ⟨lw_p142, List.forall_mem_cons.mpr ⟨lw_p143, fun _ h => absurd h List.not_mem_nil⟩⟩⟩⟩⟩⟩⟩⟩⟩⟩⟩⟩⟩⟩⟩⟩
theorem lw_p144 : lw_okq (⟨"SoarHouseModel", "forceOf", "(I)I"⟩, 100) := ⟨⟨by decide +kernel, by decide +kernel⟩, List.mem_of_getElem? (i := 1304) (by decide +kernel), List.mem_of_getElem? (i := 1781) (by decide +kernel), List.mem_of_getElem? (i := 1782) (by decide +kernel)⟩
theorem lw_p145 : lw_okq (⟨"SoarHouseModel", "latest", "([II)I"⟩, 100) := ⟨⟨by decide +kernel, by decide +kernel⟩, List.mem_of_getElem? (i := 1304) (by decide +kernel), List.mem_of_getElem? (i := 1785) (by decide +kernel), List.mem_of_getElem? (i := 1786) (by decide +kernel)⟩
theorem lw_p146 : lw_okq (⟨"SoarHouseModel", "wayOf", "(I)I"⟩, 100) := ⟨⟨by decide +kernel, by decide +kernel⟩, List.mem_of_getElem? (i := 1304) (by decide +kernel), List.mem_of_getElem? (i := 1789) (by decide +kernel), List.mem_of_getElem? (i := 1790) (by decide +kernel)⟩
theorem lw_p147 : lw_okq (⟨"SoarHouseModel", "topOf", "(I)I"⟩, 100) := ⟨⟨by decide +kernel, by decide +kernel⟩, List.mem_of_getElem? (i := 1304) (by decide +kernel), List.mem_of_getElem? (i := 1797) (by decide +kernel), List.mem_of_getElem? (i := 1798) (by decide +kernel)⟩
theorem lw_p148 : lw_okq (⟨"SoarHouseModel", "isShut", "(III)Z"⟩, 100) := ⟨⟨by decide +kernel, by decide +kernel⟩, List.mem_of_getElem? (i := 1304) (by decide +kernel), List.mem_of_getElem? (i := 1811) (by decide +kernel), List.mem_of_getElem? (i := 1812) (by decide +kernel)⟩
theorem lw_p149 : lw_okq (⟨"SoarHouseModel", "canBegin", "(IIII)Z"⟩, 100) := ⟨⟨by decide +kernel, by decide +kernel⟩, List.mem_of_getElem? (i := 1304) (by decide +kernel), List.mem_of_getElem? (i := 1819) (by decide +kernel), List.mem_of_getElem? (i := 1820) (by decide +kernel)⟩
theorem lw_p150 : lw_okq (⟨"SoarHouseModel", "isGlider", "(I)Z"⟩, 100) := ⟨⟨by decide +kernel, by decide +kernel⟩, List.mem_of_getElem? (i := 1304) (by decide +kernel), List.mem_of_getElem? (i := 1823) (by decide +kernel), List.mem_of_getElem? (i := 1824) (by decide +kernel)⟩
theorem lw_p151 : lw_okq (⟨"SoarHouseModel", "leads", "(IIIII)Z"⟩, 100) := ⟨⟨by decide +kernel, by decide +kernel⟩, List.mem_of_getElem? (i := 1304) (by decide +kernel), List.mem_of_getElem? (i := 1827) (by decide +kernel), List.mem_of_getElem? (i := 1828) (by decide +kernel)⟩
theorem lw_p152 : lw_okq (⟨"SoarHouseModel", "add", "(I)V"⟩, 100) := ⟨⟨by decide +kernel, by decide +kernel⟩, List.mem_of_getElem? (i := 1304) (by decide +kernel), List.mem_of_getElem? (i := 1841) (by decide +kernel), List.mem_of_getElem? (i := 1842) (by decide +kernel)⟩
theorem lw_p153 : lw_okq (⟨"SoarHouseModel", "fly", "(IIIII)I"⟩, 100) := ⟨⟨by decide +kernel, by decide +kernel⟩, List.mem_of_getElem? (i := 1304) (by decide +kernel), List.mem_of_getElem? (i := 1849) (by decide +kernel), List.mem_of_getElem? (i := 1850) (by decide +kernel)⟩
theorem lw_p154 : lw_okq (⟨"SoarHouseModel", "reckon", "(II)V"⟩, 100) := ⟨⟨by decide +kernel, by decide +kernel⟩, List.mem_of_getElem? (i := 1304) (by decide +kernel), List.mem_of_getElem? (i := 1853) (by decide +kernel), List.mem_of_getElem? (i := 1854) (by decide +kernel)⟩
theorem lw_p155 : lw_okq (⟨"SoarHouseModel", "endBy", "(IIIIII)I"⟩, 100) := ⟨⟨by decide +kernel, by decide +kernel⟩, List.mem_of_getElem? (i := 1304) (by decide +kernel), List.mem_of_getElem? (i := 1860) (by decide +kernel), List.mem_of_getElem? (i := 1861) (by decide +kernel)⟩
theorem lw_p156 : lw_okq (⟨"SoarHouseModel", "isFlown", "(IIII)Z"⟩, 100) := ⟨⟨by decide +kernel, by decide +kernel⟩, List.mem_of_getElem? (i := 1304) (by decide +kernel), List.mem_of_getElem? (i := 1864) (by decide +kernel), List.mem_of_getElem? (i := 1865) (by decide +kernel)⟩
theorem lw_p157 : lw_okq (⟨"SoarHouseModel", "roundedIn", "(II)I"⟩, 100) := ⟨⟨by decide +kernel, by decide +kernel⟩, List.mem_of_getElem? (i := 1304) (by decide +kernel), List.mem_of_getElem? (i := 1868) (by decide +kernel), List.mem_of_getElem? (i := 1869) (by decide +kernel)⟩
theorem lw_p158 : lw_okq (⟨"SoarHouseModel", "glide", "(IIII)V"⟩, 100) := ⟨⟨by decide +kernel, by decide +kernel⟩, List.mem_of_getElem? (i := 1304) (by decide +kernel), List.mem_of_getElem? (i := 1880) (by decide +kernel), List.mem_of_getElem? (i := 1881) (by decide +kernel)⟩
theorem lw_p159 : lw_okq (⟨"SoarHouseModel", "isComeTo", "(II)Z"⟩, 100) := ⟨⟨by decide +kernel, by decide +kernel⟩, List.mem_of_getElem? (i := 1304) (by decide +kernel), List.mem_of_getElem? (i := 1884) (by decide +kernel), List.mem_of_getElem? (i := 1885) (by decide +kernel)⟩
def lw_privs_10 : List (MethodName × Nat) := [(⟨"SoarHouseModel", "forceOf", "(I)I"⟩, 100), (⟨"SoarHouseModel", "latest", "([II)I"⟩, 100), (⟨"SoarHouseModel", "wayOf", "(I)I"⟩, 100), (⟨"SoarHouseModel", "topOf", "(I)I"⟩, 100), (⟨"SoarHouseModel", "isShut", "(III)Z"⟩, 100), (⟨"SoarHouseModel", "canBegin", "(IIII)Z"⟩, 100), (⟨"SoarHouseModel", "isGlider", "(I)Z"⟩, 100), (⟨"SoarHouseModel", "leads", "(IIIII)Z"⟩, 100), (⟨"SoarHouseModel", "add", "(I)V"⟩, 100), (⟨"SoarHouseModel", "fly", "(IIIII)I"⟩, 100), (⟨"SoarHouseModel", "reckon", "(II)V"⟩, 100), (⟨"SoarHouseModel", "endBy", "(IIIIII)I"⟩, 100), (⟨"SoarHouseModel", "isFlown", "(IIII)Z"⟩, 100), (⟨"SoarHouseModel", "roundedIn", "(II)I"⟩, 100), (⟨"SoarHouseModel", "glide", "(IIII)V"⟩, 100), (⟨"SoarHouseModel", "isComeTo", "(II)Z"⟩, 100)]
theorem lw_r10 : ∀ q ∈ lw_privs_10, lw_okq q := List.forall_mem_cons.mpr ⟨lw_p144, List.forall_mem_cons.mpr ⟨lw_p145, List.forall_mem_cons.mpr ⟨lw_p146, List.forall_mem_cons.mpr ⟨lw_p147, List.forall_mem_cons.mpr ⟨lw_p148, List.forall_mem_cons.mpr ⟨lw_p149, List.forall_mem_cons.mpr ⟨lw_p150, List.forall_mem_cons.mpr ⟨lw_p151, List.forall_mem_cons.mpr ⟨lw_p152, List.forall_mem_cons.mpr ⟨lw_p153, List.forall_mem_cons.mpr ⟨lw_p154, List.forall_mem_cons.mpr ⟨lw_p155, List.forall_mem_cons.mpr ⟨lw_p156, List.forall_mem_cons.mpr ⟨lw_p157, List.forall_mem_cons.mpr ⟨lw_p158, List.forall_mem_cons.mpr ⟨lw_p159, fun _ h => absurd h List.not_mem_nil⟩⟩⟩⟩⟩⟩⟩⟩⟩⟩⟩⟩⟩⟩⟩⟩
theorem lw_p160 : lw_okq (⟨"SoarHouseModel", "queue", "()V"⟩, 100) := ⟨⟨by decide +kernel, by decide +kernel⟩, List.mem_of_getElem? (i := 1304) (by decide +kernel), List.mem_of_getElem? (i := 1899) (by decide +kernel), List.mem_of_getElem? (i := 1900) (by decide +kernel)⟩
theorem lw_p161 : lw_okq (⟨"SoarHouseModel", "isPilot", "(I)Z"⟩, 100) := ⟨⟨by decide +kernel, by decide +kernel⟩, List.mem_of_getElem? (i := 1304) (by decide +kernel), List.mem_of_getElem? (i := 1915) (by decide +kernel), List.mem_of_getElem? (i := 1916) (by decide +kernel)⟩
theorem lw_p162 : lw_okq (⟨"SoarHouseModel", "trace", "(II)V"⟩, 100) := ⟨⟨by decide +kernel, by decide +kernel⟩, List.mem_of_getElem? (i := 1304) (by decide +kernel), List.mem_of_getElem? (i := 1935) (by decide +kernel), List.mem_of_getElem? (i := 1936) (by decide +kernel)⟩
theorem lw_p163 : lw_okq (⟨"SoarHouseModel", "mostRounded", "()I"⟩, 100) := ⟨⟨by decide +kernel, by decide +kernel⟩, List.mem_of_getElem? (i := 1304) (by decide +kernel), List.mem_of_getElem? (i := 1939) (by decide +kernel), List.mem_of_getElem? (i := 1940) (by decide +kernel)⟩
theorem lw_p164 : lw_okq (⟨"SoarHouseModel", "isAtPoint", "(II)Z"⟩, 100) := ⟨⟨by decide +kernel, by decide +kernel⟩, List.mem_of_getElem? (i := 1304) (by decide +kernel), List.mem_of_getElem? (i := 1943) (by decide +kernel), List.mem_of_getElem? (i := 1944) (by decide +kernel)⟩
theorem lw_p165 : lw_okq (⟨"SoarHouseModel", "toZone", "(II)I"⟩, 100) := ⟨⟨by decide +kernel, by decide +kernel⟩, List.mem_of_getElem? (i := 1304) (by decide +kernel), List.mem_of_getElem? (i := 1953) (by decide +kernel), List.mem_of_getElem? (i := 1954) (by decide +kernel)⟩
theorem lw_p166 : lw_okq (⟨"SoarHouseModel", "leastRounded", "()I"⟩, 100) := ⟨⟨by decide +kernel, by decide +kernel⟩, List.mem_of_getElem? (i := 1304) (by decide +kernel), List.mem_of_getElem? (i := 1957) (by decide +kernel), List.mem_of_getElem? (i := 1958) (by decide +kernel)⟩
theorem lw_p167 : lw_okq (⟨"SoarHouseModel", "doneOf", "()I"⟩, 100) := ⟨⟨by decide +kernel, by decide +kernel⟩, List.mem_of_getElem? (i := 1304) (by decide +kernel), List.mem_of_getElem? (i := 1965) (by decide +kernel), List.mem_of_getElem? (i := 1966) (by decide +kernel)⟩
theorem lw_p168 : lw_okq (⟨"SoarHouseModel", "lengthOf", "(I)I"⟩, 100) := ⟨⟨by decide +kernel, by decide +kernel⟩, List.mem_of_getElem? (i := 1304) (by decide +kernel), List.mem_of_getElem? (i := 1969) (by decide +kernel), List.mem_of_getElem? (i := 1970) (by decide +kernel)⟩
theorem lw_p169 : lw_okq (⟨"SoarHouseModel", "legsOf", "()I"⟩, 100) := ⟨⟨by decide +kernel, by decide +kernel⟩, List.mem_of_getElem? (i := 1304) (by decide +kernel), List.mem_of_getElem? (i := 1973) (by decide +kernel), List.mem_of_getElem? (i := 1974) (by decide +kernel)⟩
theorem lw_p170 : lw_okq (⟨"SoarHouseModel", "timeOf", "()I"⟩, 100) := ⟨⟨by decide +kernel, by decide +kernel⟩, List.mem_of_getElem? (i := 1304) (by decide +kernel), List.mem_of_getElem? (i := 1977) (by decide +kernel), List.mem_of_getElem? (i := 1978) (by decide +kernel)⟩
theorem lw_p171 : lw_okq (⟨"SoarHouseModel", "sureWalls", "()I"⟩, 100) := ⟨⟨by decide +kernel, by decide +kernel⟩, List.mem_of_getElem? (i := 1304) (by decide +kernel), List.mem_of_getElem? (i := 1981) (by decide +kernel), List.mem_of_getElem? (i := 1982) (by decide +kernel)⟩
theorem lw_p172 : lw_okq (⟨"SoarHouseModel", "maybeWalls", "()I"⟩, 100) := ⟨⟨by decide +kernel, by decide +kernel⟩, List.mem_of_getElem? (i := 1304) (by decide +kernel), List.mem_of_getElem? (i := 1985) (by decide +kernel), List.mem_of_getElem? (i := 1986) (by decide +kernel)⟩
theorem lw_p173 : lw_okq (⟨"SoarHouseModel", "mayEnter", "(II)Z"⟩, 100) := ⟨⟨by decide +kernel, by decide +kernel⟩, List.mem_of_getElem? (i := 1304) (by decide +kernel), List.mem_of_getElem? (i := 1989) (by decide +kernel), List.mem_of_getElem? (i := 1990) (by decide +kernel)⟩
theorem lw_p174 : lw_okq (⟨"SoarHouseModel", "e", "()V"⟩, 100) := ⟨⟨by decide +kernel, by decide +kernel⟩, List.mem_of_getElem? (i := 1304) (by decide +kernel), List.mem_of_getElem? (i := 1997) (by decide +kernel), List.mem_of_getElem? (i := 1998) (by decide +kernel)⟩
theorem lw_p175 : lw_okq (⟨"SoarHouseModel", "put", "(II)V"⟩, 100) := ⟨⟨by decide +kernel, by decide +kernel⟩, List.mem_of_getElem? (i := 1304) (by decide +kernel), List.mem_of_getElem? (i := 2001) (by decide +kernel), List.mem_of_getElem? (i := 2002) (by decide +kernel)⟩
def lw_privs_11 : List (MethodName × Nat) := [(⟨"SoarHouseModel", "queue", "()V"⟩, 100), (⟨"SoarHouseModel", "isPilot", "(I)Z"⟩, 100), (⟨"SoarHouseModel", "trace", "(II)V"⟩, 100), (⟨"SoarHouseModel", "mostRounded", "()I"⟩, 100), (⟨"SoarHouseModel", "isAtPoint", "(II)Z"⟩, 100), (⟨"SoarHouseModel", "toZone", "(II)I"⟩, 100), (⟨"SoarHouseModel", "leastRounded", "()I"⟩, 100), (⟨"SoarHouseModel", "doneOf", "()I"⟩, 100), (⟨"SoarHouseModel", "lengthOf", "(I)I"⟩, 100), (⟨"SoarHouseModel", "legsOf", "()I"⟩, 100), (⟨"SoarHouseModel", "timeOf", "()I"⟩, 100), (⟨"SoarHouseModel", "sureWalls", "()I"⟩, 100), (⟨"SoarHouseModel", "maybeWalls", "()I"⟩, 100), (⟨"SoarHouseModel", "mayEnter", "(II)Z"⟩, 100), (⟨"SoarHouseModel", "e", "()V"⟩, 100), (⟨"SoarHouseModel", "put", "(II)V"⟩, 100)]
theorem lw_r11 : ∀ q ∈ lw_privs_11, lw_okq q := List.forall_mem_cons.mpr ⟨lw_p160, List.forall_mem_cons.mpr ⟨lw_p161, List.forall_mem_cons.mpr ⟨lw_p162, List.forall_mem_cons.mpr ⟨lw_p163, List.forall_mem_cons.mpr ⟨lw_p164, List.forall_mem_cons.mpr ⟨lw_p165, List.forall_mem_cons.mpr ⟨lw_p166, List.forall_mem_cons.mpr ⟨lw_p167, List.forall_mem_cons.mpr ⟨lw_p168, List.forall_mem_cons.mpr ⟨lw_p169, List.forall_mem_cons.mpr ⟨lw_p170, List.forall_mem_cons.mpr ⟨lw_p171, List.forall_mem_cons.mpr ⟨lw_p172, List.forall_mem_cons.mpr ⟨lw_p173, List.forall_mem_cons.mpr ⟨lw_p174, List.forall_mem_cons.mpr ⟨lw_p175, fun _ h => absurd h List.not_mem_nil⟩⟩⟩⟩⟩⟩⟩⟩⟩⟩⟩⟩⟩⟩⟩⟩
theorem lw_p176 : lw_okq (⟨"SoarHouseModel", "unit", "()Z"⟩, 100) := ⟨⟨by decide +kernel, by decide +kernel⟩, List.mem_of_getElem? (i := 1304) (by decide +kernel), List.mem_of_getElem? (i := 2005) (by decide +kernel), List.mem_of_getElem? (i := 2006) (by decide +kernel)⟩
theorem lw_p177 : lw_okq (⟨"SoarHouseModel", "wordHere", "()I"⟩, 100) := ⟨⟨by decide +kernel, by decide +kernel⟩, List.mem_of_getElem? (i := 1304) (by decide +kernel), List.mem_of_getElem? (i := 2009) (by decide +kernel), List.mem_of_getElem? (i := 2010) (by decide +kernel)⟩
theorem lw_p178 : lw_okq (⟨"SoarHouseModel", "step", "(II)V"⟩, 100) := ⟨⟨by decide +kernel, by decide +kernel⟩, List.mem_of_getElem? (i := 1304) (by decide +kernel), List.mem_of_getElem? (i := 2013) (by decide +kernel), List.mem_of_getElem? (i := 2014) (by decide +kernel)⟩
theorem lw_p179 : lw_okq (⟨"SoarHouseModel", "behind", "()Z"⟩, 100) := ⟨⟨by decide +kernel, by decide +kernel⟩, List.mem_of_getElem? (i := 1304) (by decide +kernel), List.mem_of_getElem? (i := 2017) (by decide +kernel), List.mem_of_getElem? (i := 2018) (by decide +kernel)⟩
theorem lw_p180 : lw_okq (⟨"SoarHouseModel", "rankHere", "()I"⟩, 100) := ⟨⟨by decide +kernel, by decide +kernel⟩, List.mem_of_getElem? (i := 1304) (by decide +kernel), List.mem_of_getElem? (i := 2021) (by decide +kernel), List.mem_of_getElem? (i := 2022) (by decide +kernel)⟩
theorem lw_p181 : lw_okq (⟨"SoarHouseModel", "isCompared", "()Z"⟩, 100) := ⟨⟨by decide +kernel, by decide +kernel⟩, List.mem_of_getElem? (i := 1304) (by decide +kernel), List.mem_of_getElem? (i := 2025) (by decide +kernel), List.mem_of_getElem? (i := 2026) (by decide +kernel)⟩
theorem lw_p182 : lw_okq (⟨"SoarHouseModel", "compareAll", "(I)V"⟩, 100) := ⟨⟨by decide +kernel, by decide +kernel⟩, List.mem_of_getElem? (i := 1304) (by decide +kernel), List.mem_of_getElem? (i := 2033) (by decide +kernel), List.mem_of_getElem? (i := 2034) (by decide +kernel)⟩
theorem lw_p183 : lw_okq (⟨"SoarHouseModel", "scoreOf", "(II)I"⟩, 100) := ⟨⟨by decide +kernel, by decide +kernel⟩, List.mem_of_getElem? (i := 1304) (by decide +kernel), List.mem_of_getElem? (i := 2037) (by decide +kernel), List.mem_of_getElem? (i := 2038) (by decide +kernel)⟩
theorem lw_p184 : lw_okq (⟨"SoarHouseModel", "term", "(II)I"⟩, 100) := ⟨⟨by decide +kernel, by decide +kernel⟩, List.mem_of_getElem? (i := 1304) (by decide +kernel), List.mem_of_getElem? (i := 2044) (by decide +kernel), List.mem_of_getElem? (i := 2045) (by decide +kernel)⟩
theorem lw_p185 : lw_okq (⟨"SoarHouseModel", "seek", "(II)I"⟩, 100) := ⟨⟨by decide +kernel, by decide +kernel⟩, List.mem_of_getElem? (i := 1304) (by decide +kernel), List.mem_of_getElem? (i := 2072) (by decide +kernel), List.mem_of_getElem? (i := 2073) (by decide +kernel)⟩
theorem lw_p186 : lw_okq (⟨"SoarHouseModel", "lastHome", "(III)I"⟩, 100) := ⟨⟨by decide +kernel, by decide +kernel⟩, List.mem_of_getElem? (i := 1304) (by decide +kernel), List.mem_of_getElem? (i := 2076) (by decide +kernel), List.mem_of_getElem? (i := 2077) (by decide +kernel)⟩
def lw_privs_12 : List (MethodName × Nat) := [(⟨"SoarHouseModel", "unit", "()Z"⟩, 100), (⟨"SoarHouseModel", "wordHere", "()I"⟩, 100), (⟨"SoarHouseModel", "step", "(II)V"⟩, 100), (⟨"SoarHouseModel", "behind", "()Z"⟩, 100), (⟨"SoarHouseModel", "rankHere", "()I"⟩, 100), (⟨"SoarHouseModel", "isCompared", "()Z"⟩, 100), (⟨"SoarHouseModel", "compareAll", "(I)V"⟩, 100), (⟨"SoarHouseModel", "scoreOf", "(II)I"⟩, 100), (⟨"SoarHouseModel", "term", "(II)I"⟩, 100), (⟨"SoarHouseModel", "seek", "(II)I"⟩, 100), (⟨"SoarHouseModel", "lastHome", "(III)I"⟩, 100)]
theorem lw_r12 : ∀ q ∈ lw_privs_12, lw_okq q := List.forall_mem_cons.mpr ⟨lw_p176, List.forall_mem_cons.mpr ⟨lw_p177, List.forall_mem_cons.mpr ⟨lw_p178, List.forall_mem_cons.mpr ⟨lw_p179, List.forall_mem_cons.mpr ⟨lw_p180, List.forall_mem_cons.mpr ⟨lw_p181, List.forall_mem_cons.mpr ⟨lw_p182, List.forall_mem_cons.mpr ⟨lw_p183, List.forall_mem_cons.mpr ⟨lw_p184, List.forall_mem_cons.mpr ⟨lw_p185, List.forall_mem_cons.mpr ⟨lw_p186, fun _ h => absurd h List.not_mem_nil⟩⟩⟩⟩⟩⟩⟩⟩⟩⟩⟩
def lw_privs : List (MethodName × Nat) := lw_privs_1 ++ (lw_privs_2 ++ (lw_privs_3 ++ (lw_privs_4 ++ (lw_privs_5 ++ (lw_privs_6 ++ (lw_privs_7 ++ (lw_privs_8 ++ (lw_privs_9 ++ (lw_privs_10 ++ (lw_privs_11 ++ (lw_privs_12)))))))))))
def lw_tbl : List Cond := k2_sels lw_privs ++ tables_1
theorem lw_privs_ok : ∀ q ∈ lw_privs, lw_okq q := by
  show ∀ q ∈ lw_privs_1 ++ (lw_privs_2 ++ (lw_privs_3 ++ (lw_privs_4 ++ (lw_privs_5 ++ (lw_privs_6 ++ (lw_privs_7 ++ (lw_privs_8 ++ (lw_privs_9 ++ (lw_privs_10 ++ (lw_privs_11 ++ (lw_privs_12))))))))))), lw_okq q
  exact List.forall_mem_append.mpr ⟨lw_r1, List.forall_mem_append.mpr ⟨lw_r2, List.forall_mem_append.mpr ⟨lw_r3, List.forall_mem_append.mpr ⟨lw_r4, List.forall_mem_append.mpr ⟨lw_r5, List.forall_mem_append.mpr ⟨lw_r6, List.forall_mem_append.mpr ⟨lw_r7, List.forall_mem_append.mpr ⟨lw_r8, List.forall_mem_append.mpr ⟨lw_r9, List.forall_mem_append.mpr ⟨lw_r10, List.forall_mem_append.mpr ⟨lw_r11, lw_r12⟩⟩⟩⟩⟩⟩⟩⟩⟩⟩⟩
def RX0 : String := "SoarHouse$Course"
def TX0 : u_T := fun k => match k with
  | 0 => ("SoarHouse$Course", "points", "[I", true)
  | 1 => ("SoarHouse$Course", "count", "I", false)
  | _ => ("SoarHouse$Course", "zone", "I", false)
def tyX0 : Nat → FieldType := fun k => match k with
  | 0 => .array .int
  | 1 => .int
  | _ => .int
abbrev wsX00 : List Cond := u_ws RX0 TX0 3
theorem nmX0 : ∀ a, a < 3 → ∀ b, b < 3 → a ≠ b → (TX0 a).2.1 ≠ (TX0 b).2.1 := by decide +kernel
theorem tyX0_ok : ∀ k, k < 3 → parseFieldDescriptor (TX0 k).2.2.1 = some (tyX0 k) := by decide +kernel
abbrev cX0_init : ByteArray := prog_2_method_1_code
def yX0_init : MethodName := ⟨RX0, "<init>", "()V"⟩
abbrev cX0_take : ByteArray := prog_2_method_2_code
def yX0_take : MethodName := ⟨RX0, "take", "(IIII)Z"⟩
abbrev cX0_canTurn : ByteArray := prog_2_method_3_code
def yX0_canTurn : MethodName := ⟨RX0, "canTurn", "(II)Z"⟩
abbrev cX0_addPoint : ByteArray := prog_2_method_4_code
def yX0_addPoint : MethodName := ⟨RX0, "addPoint", "(I)V"⟩
abbrev cX0_turns : ByteArray := prog_2_method_5_code
def yX0_turns : MethodName := ⟨RX0, "turns", "()I"⟩
abbrev cX0_finish : ByteArray := prog_2_method_6_code
def yX0_finish : MethodName := ⟨RX0, "finish", "()I"⟩
abbrev cX0_roundedIn : ByteArray := prog_2_method_7_code
def yX0_roundedIn : MethodName := ⟨RX0, "roundedIn", "(II)I"⟩
def RX1 : String := "SoarHouse$Flight"
def TX1 : u_T := fun k => match k with
  | 0 => ("SoarHouse$Flight", "grid", "[J", true)
  | 1 => ("SoarHouse$Flight", "neighbours", "[I", true)
  | 2 => ("SoarHouse$Flight", "losses", "[I", true)
  | 3 => ("SoarHouse$Flight", "moves", "[I", true)
  | 4 => ("SoarHouse$Flight", "noCourse", "LSoarHouse$Course;", true)
  | 5 => ("SoarHouse$Flight", "moveCount", "I", false)
  | 6 => ("SoarHouse$Flight", "flown", "I", false)
  | 7 => ("SoarHouse$Flight", "plan", "LSoarHouse$Plan;", false)
  | 8 => ("SoarHouse$Flight", "course", "LSoarHouse$Course;", false)
  | 9 => ("SoarHouse$Flight", "top", "I", false)
  | 10 => ("SoarHouse$Flight", "hour", "I", false)
  | 11 => ("SoarHouse$Flight", "known", "Z", false)
  | 12 => ("SoarHouse$Flight", "glider", "I", false)
  | 13 => ("SoarHouse$Flight", "cell", "I", false)
  | 14 => ("SoarHouse$Flight", "moment", "I", false)
  | 15 => ("SoarHouse$Flight", "height", "I", false)
  | _ => ("SoarHouse$Flight", "finishHeight", "I", false)
def tyX1 : Nat → FieldType := fun k => match k with
  | 0 => .array .long
  | 1 => .array .int
  | 2 => .array .int
  | 3 => .array .int
  | 4 => .object "SoarHouse$Course"
  | 5 => .int
  | 6 => .int
  | 7 => .object "SoarHouse$Plan"
  | 8 => .object "SoarHouse$Course"
  | 9 => .int
  | 10 => .int
  | 11 => .boolean
  | 12 => .int
  | 13 => .int
  | 14 => .int
  | 15 => .int
  | _ => .int
abbrev wsX10 : List Cond := u_ws RX1 TX1 17
theorem nmX1 : ∀ a, a < 17 → ∀ b, b < 17 → a ≠ b → (TX1 a).2.1 ≠ (TX1 b).2.1 := by decide +kernel
theorem tyX1_ok : ∀ k, k < 17 → parseFieldDescriptor (TX1 k).2.2.1 = some (tyX1 k) := by decide +kernel
abbrev cX1_init : ByteArray := prog_3_method_1_code
def yX1_init : MethodName := ⟨RX1, "<init>", "(LSoarHouse$Plan;LSoarHouse$Course;)V"⟩
abbrev cX1_forget : ByteArray := prog_3_method_2_code
def yX1_forget : MethodName := ⟨RX1, "forget", "()V"⟩
abbrev cX1_knows : ByteArray := prog_3_method_3_code
def yX1_knows : MethodName := ⟨RX1, "knows", "(IIIII)Z"⟩
abbrev cX1_ask : ByteArray := prog_3_method_4_code
def yX1_ask : MethodName := ⟨RX1, "ask", "(IIIII)V"⟩
abbrev cX1_search : ByteArray := prog_3_method_5_code
def yX1_search : MethodName := ⟨RX1, "search", "(LSoarHouse$Plan;LSoarHouse$Course;)V"⟩
abbrev cX1_fieldsInReach : ByteArray := prog_3_method_6_code
def yX1_fieldsInReach : MethodName := ⟨RX1, "fieldsInReach", "(LSoarHouse$Plan;IIII)I"⟩
abbrev cX1_begin : ByteArray := prog_3_method_7_code
def yX1_begin : MethodName := ⟨RX1, "begin", "(LSoarHouse$Plan;LSoarHouse$Course;)V"⟩
abbrev cX1_index : ByteArray := prog_3_method_8_code
def yX1_index : MethodName := ⟨RX1, "index", "(III)I"⟩
abbrev cX1_heightsUpTo : ByteArray := prog_3_method_9_code
def yX1_heightsUpTo : MethodName := ⟨RX1, "heightsUpTo", "(I)J"⟩
abbrev cX1_cellsReached : ByteArray := prog_3_method_10_code
def yX1_cellsReached : MethodName := ⟨RX1, "cellsReached", "(I)J"⟩
abbrev cX1_finishing : ByteArray := prog_3_method_11_code
def yX1_finishing : MethodName := ⟨RX1, "finishing", "(I)J"⟩
abbrev cX1_isFlown : ByteArray := prog_3_method_12_code
def yX1_isFlown : MethodName := ⟨RX1, "isFlown", "(I)Z"⟩
abbrev cX1_readHour : ByteArray := prog_3_method_13_code
def yX1_readHour : MethodName := ⟨RX1, "readHour", "(I)V"⟩
abbrev cX1_spreadAll : ByteArray := prog_3_method_14_code
def yX1_spreadAll : MethodName := ⟨RX1, "spreadAll", "(IZ)V"⟩
abbrev cX1_spread : ByteArray := prog_3_method_15_code
def yX1_spread : MethodName := ⟨RX1, "spread", "(IIIZ)V"⟩
abbrev cX1_circled : ByteArray := prog_3_method_16_code
def yX1_circled : MethodName := ⟨RX1, "circled", "(JI)J"⟩
abbrev cX1_uncircled : ByteArray := prog_3_method_17_code
def yX1_uncircled : MethodName := ⟨RX1, "uncircled", "(JI)J"⟩
abbrev cX1_keepWhatLeadsThere : ByteArray := prog_3_method_18_code
def yX1_keepWhatLeadsThere : MethodName := ⟨RX1, "keepWhatLeadsThere", "()V"⟩
abbrev cX1_leading : ByteArray := prog_3_method_19_code
def yX1_leading : MethodName := ⟨RX1, "leading", "(III)J"⟩
abbrev cX1_walk : ByteArray := prog_3_method_20_code
def yX1_walk : MethodName := ⟨RX1, "walk", "()V"⟩
abbrev cX1_firstLeading : ByteArray := prog_3_method_21_code
def yX1_firstLeading : MethodName := ⟨RX1, "firstLeading", "(IIII)I"⟩
abbrev cX1_leads : ByteArray := prog_3_method_22_code
def yX1_leads : MethodName := ⟨RX1, "leads", "(II)Z"⟩
def RX2 : String := "SoarHouse$Launches"
def TX2 : u_T := fun k => match k with
  | 0 => ("SoarHouse$Launches", "winchSteps", "I", false)
  | 1 => ("SoarHouse$Launches", "planes", "I", false)
  | 2 => ("SoarHouse$Launches", "towSteps", "I", false)
  | 3 => ("SoarHouse$Launches", "winchFree", "I", false)
  | 4 => ("SoarHouse$Launches", "planeFree", "[I", true)
  | 5 => ("SoarHouse$Launches", "begins", "[I", true)
  | 6 => ("SoarHouse$Launches", "frees", "[I", true)
  | 7 => ("SoarHouse$Launches", "by", "[I", true)
  | _ => ("SoarHouse$Launches", "count", "I", false)
def tyX2 : Nat → FieldType := fun k => match k with
  | 0 => .int
  | 1 => .int
  | 2 => .int
  | 3 => .int
  | 4 => .array .int
  | 5 => .array .int
  | 6 => .array .int
  | 7 => .array .int
  | _ => .int
abbrev wsX20 : List Cond := u_ws RX2 TX2 9
theorem nmX2 : ∀ a, a < 9 → ∀ b, b < 9 → a ≠ b → (TX2 a).2.1 ≠ (TX2 b).2.1 := by decide +kernel
theorem tyX2_ok : ∀ k, k < 9 → parseFieldDescriptor (TX2 k).2.2.1 = some (tyX2 k) := by decide +kernel
abbrev cX2_init : ByteArray := prog_4_method_1_code
def yX2_init : MethodName := ⟨RX2, "<init>", "()V"⟩
abbrev cX2_equip : ByteArray := prog_4_method_2_code
def yX2_equip : MethodName := ⟨RX2, "equip", "(III)Z"⟩
abbrev cX2_isTaken : ByteArray := prog_4_method_3_code
def yX2_isTaken : MethodName := ⟨RX2, "isTaken", "(I)Z"⟩
abbrev cX2_ask : ByteArray := prog_4_method_4_code
def yX2_ask : MethodName := ⟨RX2, "ask", "(ZI)I"⟩
abbrev cX2_firstFree : ByteArray := prog_4_method_5_code
def yX2_firstFree : MethodName := ⟨RX2, "firstFree", "()I"⟩
abbrev cX2_tell : ByteArray := prog_4_method_6_code
def yX2_tell : MethodName := ⟨RX2, "tell", "(II)I"⟩
def RX3 : String := "SoarHouse$Law"
def TX3 : u_T := fun k => match k with
  | 0 => ("SoarHouse$Law", "tokens", "LSoarHouse$Tokens;", true)
  | 1 => ("SoarHouse$Law", "code", "[I", false)
  | 2 => ("SoarHouse$Law", "length", "I", false)
  | 3 => ("SoarHouse$Law", "draft", "[I", false)
  | 4 => ("SoarHouse$Law", "drafted", "I", false)
  | 5 => ("SoarHouse$Law", "units", "I", false)
  | _ => ("SoarHouse$Law", "stack", "[I", true)
def tyX3 : Nat → FieldType := fun k => match k with
  | 0 => .object "SoarHouse$Tokens"
  | 1 => .array .int
  | 2 => .int
  | 3 => .array .int
  | 4 => .int
  | 5 => .int
  | _ => .array .int
abbrev wsX30 : List Cond := u_ws RX3 TX3 7
theorem nmX3 : ∀ a, a < 7 → ∀ b, b < 7 → a ≠ b → (TX3 a).2.1 ≠ (TX3 b).2.1 := by decide +kernel
theorem tyX3_ok : ∀ k, k < 7 → parseFieldDescriptor (TX3 k).2.2.1 = some (tyX3 k) := by decide +kernel
abbrev cX3_init : ByteArray := prog_5_method_1_code
def yX3_init : MethodName := ⟨RX3, "<init>", "(LSoarHouse$Tokens;)V"⟩
abbrev cX3_read : ByteArray := prog_5_method_2_code
def yX3_read : MethodName := ⟨RX3, "read", "(I)Z"⟩
abbrev cX3_put : ByteArray := prog_5_method_3_code
def yX3_put : MethodName := ⟨RX3, "put", "(I)V"⟩
abbrev cX3_readEither : ByteArray := prog_5_method_4_code
def yX3_readEither : MethodName := ⟨RX3, "readEither", "(I)Z"⟩
abbrev cX3_readBoth : ByteArray := prog_5_method_5_code
def yX3_readBoth : MethodName := ⟨RX3, "readBoth", "(I)Z"⟩
abbrev cX3_readOne : ByteArray := prog_5_method_6_code
def yX3_readOne : MethodName := ⟨RX3, "readOne", "(I)Z"⟩
abbrev cX3_readSum : ByteArray := prog_5_method_7_code
def yX3_readSum : MethodName := ⟨RX3, "readSum", "(I)Z"⟩
abbrev cX3_readTerm : ByteArray := prog_5_method_8_code
def yX3_readTerm : MethodName := ⟨RX3, "readTerm", "(I)Z"⟩
abbrev cX3_readUnit : ByteArray := prog_5_method_9_code
def yX3_readUnit : MethodName := ⟨RX3, "readUnit", "(I)Z"⟩
abbrev cX3_asked : ByteArray := prog_5_method_10_code
def yX3_asked : MethodName := ⟨RX3, "asked", "()I"⟩
abbrev cX3_valueOf : ByteArray := prog_5_method_11_code
def yX3_valueOf : MethodName := ⟨RX3, "valueOf", "([II)I"⟩
abbrev cX3_worked : ByteArray := prog_5_method_12_code
def yX3_worked : MethodName := ⟨RX3, "worked", "(III)I"⟩
def RX4 : String := "SoarHouse$Plan"
def TX4 : u_T := fun k => match k with
  | 0 => ("SoarHouse$Plan", "grounds", "[I", true)
  | 1 => ("SoarHouse$Plan", "rowsTold", "I", false)
  | 2 => ("SoarHouse$Plan", "lifts", "[I", true)
  | 3 => ("SoarHouse$Plan", "liftsTold", "I", false)
  | 4 => ("SoarHouse$Plan", "winds", "[I", true)
  | 5 => ("SoarHouse$Plan", "tops", "[I", true)
  | 6 => ("SoarHouse$Plan", "wallRows", "[I", true)
  | 7 => ("SoarHouse$Plan", "walls", "I", false)
  | 8 => ("SoarHouse$Plan", "fields", "J", false)
  | 9 => ("SoarHouse$Plan", "roadRows", "[I", true)
  | 10 => ("SoarHouse$Plan", "roads", "I", false)
  | 11 => ("SoarHouse$Plan", "names", "[J", true)
  | 12 => ("SoarHouse$Plan", "gliderRows", "[I", true)
  | 13 => ("SoarHouse$Plan", "gliders", "I", false)
  | _ => ("SoarHouse$Plan", "lines", "I", false)
def tyX4 : Nat → FieldType := fun k => match k with
  | 0 => .array .int
  | 1 => .int
  | 2 => .array .int
  | 3 => .int
  | 4 => .array .int
  | 5 => .array .int
  | 6 => .array .int
  | 7 => .int
  | 8 => .long
  | 9 => .array .int
  | 10 => .int
  | 11 => .array .long
  | 12 => .array .int
  | 13 => .int
  | _ => .int
abbrev wsX40 : List Cond := u_ws RX4 TX4 15
theorem nmX4 : ∀ a, a < 15 → ∀ b, b < 15 → a ≠ b → (TX4 a).2.1 ≠ (TX4 b).2.1 := by decide +kernel
theorem tyX4_ok : ∀ k, k < 15 → parseFieldDescriptor (TX4 k).2.2.1 = some (tyX4 k) := by decide +kernel
abbrev cX4_init : ByteArray := prog_6_method_1_code
def yX4_init : MethodName := ⟨RX4, "<init>", "()V"⟩
abbrev cX4_clear : ByteArray := prog_6_method_2_code
def yX4_clear : MethodName := ⟨RX4, "clear", "()V"⟩
abbrev cX4_hasGlider : ByteArray := prog_6_method_3_code
def yX4_hasGlider : MethodName := ⟨RX4, "hasGlider", "(I)Z"⟩
abbrev cX4_hasName : ByteArray := prog_6_method_4_code
def yX4_hasName : MethodName := ⟨RX4, "hasName", "(J)Z"⟩
abbrev cX4_handicapOf : ByteArray := prog_6_method_5_code
def yX4_handicapOf : MethodName := ⟨RX4, "handicapOf", "(I)I"⟩
abbrev cX4_liftOf : ByteArray := prog_6_method_6_code
def yX4_liftOf : MethodName := ⟨RX4, "liftOf", "(II)I"⟩
abbrev cX4_windIn : ByteArray := prog_6_method_7_code
def yX4_windIn : MethodName := ⟨RX4, "windIn", "(I)I"⟩
abbrev cX4_topIn : ByteArray := prog_6_method_8_code
def yX4_topIn : MethodName := ⟨RX4, "topIn", "(I)I"⟩
abbrev cX4_wallHas : ByteArray := prog_6_method_9_code
def yX4_wallHas : MethodName := ⟨RX4, "wallHas", "(II)Z"⟩
abbrev cX4_wallCell : ByteArray := prog_6_method_10_code
def yX4_wallCell : MethodName := ⟨RX4, "wallCell", "(I)I"⟩
abbrev cX4_wallAbove : ByteArray := prog_6_method_11_code
def yX4_wallAbove : MethodName := ⟨RX4, "wallAbove", "(I)I"⟩
abbrev cX4_ceilingOf : ByteArray := prog_6_method_12_code
def yX4_ceilingOf : MethodName := ⟨RX4, "ceilingOf", "(II)I"⟩
abbrev cX4_gainOf : ByteArray := prog_6_method_13_code
def yX4_gainOf : MethodName := ⟨RX4, "gainOf", "(III)I"⟩
abbrev cX4_lossOf : ByteArray := prog_6_method_14_code
def yX4_lossOf : MethodName := ⟨RX4, "lossOf", "(IIII)I"⟩
abbrev cX4_moved : ByteArray := prog_6_method_15_code
def yX4_moved : MethodName := ⟨RX4, "moved", "(IIIII)I"⟩
abbrev cX4_circled : ByteArray := prog_6_method_16_code
def yX4_circled : MethodName := ⟨RX4, "circled", "(III)I"⟩
def RX5 : String := "SoarHouse$PlanReader"
def TX5 : u_T := fun k => match k with
  | 0 => ("SoarHouse$PlanReader", "tokens", "LSoarHouse$Tokens;", true)
  | _ => ("SoarHouse$PlanReader", "plan", "LSoarHouse$Plan;", false)
def tyX5 : Nat → FieldType := fun k => match k with
  | 0 => .object "SoarHouse$Tokens"
  | _ => .object "SoarHouse$Plan"
abbrev wsX50 : List Cond := u_ws RX5 TX5 2
theorem nmX5 : ∀ a, a < 2 → ∀ b, b < 2 → a ≠ b → (TX5 a).2.1 ≠ (TX5 b).2.1 := by decide +kernel
theorem tyX5_ok : ∀ k, k < 2 → parseFieldDescriptor (TX5 k).2.2.1 = some (tyX5 k) := by decide +kernel
abbrev cX5_init : ByteArray := prog_7_method_1_code
def yX5_init : MethodName := ⟨RX5, "<init>", "(LSoarHouse$Tokens;LSoarHouse$Plan;)V"⟩
abbrev cX5_read : ByteArray := prog_7_method_2_code
def yX5_read : MethodName := ⟨RX5, "read", "(LSoarHouse$Plan;I)Z"⟩
abbrev cX5_readRow : ByteArray := prog_7_method_3_code
def yX5_readRow : MethodName := ⟨RX5, "readRow", "()Z"⟩
abbrev cX5_readLift : ByteArray := prog_7_method_4_code
def yX5_readLift : MethodName := ⟨RX5, "readLift", "()Z"⟩
abbrev cX5_takeHour : ByteArray := prog_7_method_5_code
def yX5_takeHour : MethodName := ⟨RX5, "takeHour", "([I)I"⟩
abbrev cX5_readWind : ByteArray := prog_7_method_6_code
def yX5_readWind : MethodName := ⟨RX5, "readWind", "()Z"⟩
abbrev cX5_windLetter : ByteArray := prog_7_method_7_code
def yX5_windLetter : MethodName := ⟨RX5, "windLetter", "()I"⟩
abbrev cX5_readTop : ByteArray := prog_7_method_8_code
def yX5_readTop : MethodName := ⟨RX5, "readTop", "()Z"⟩
abbrev cX5_takeCell : ByteArray := prog_7_method_9_code
def yX5_takeCell : MethodName := ⟨RX5, "takeCell", "()I"⟩
abbrev cX5_takeBehind : ByteArray := prog_7_method_10_code
def yX5_takeBehind : MethodName := ⟨RX5, "takeBehind", "(III)I"⟩
abbrev cX5_readWall : ByteArray := prog_7_method_11_code
def yX5_readWall : MethodName := ⟨RX5, "readWall", "()Z"⟩
abbrev cX5_readField : ByteArray := prog_7_method_12_code
def yX5_readField : MethodName := ⟨RX5, "readField", "()Z"⟩
abbrev cX5_readRoad : ByteArray := prog_7_method_13_code
def yX5_readRoad : MethodName := ⟨RX5, "readRoad", "()Z"⟩
abbrev cX5_readGlider : ByteArray := prog_7_method_14_code
def yX5_readGlider : MethodName := ⟨RX5, "readGlider", "()Z"⟩
abbrev cX5_readSinks : ByteArray := prog_7_method_15_code
def yX5_readSinks : MethodName := ⟨RX5, "readSinks", "(I)Z"⟩
def RX6 : String := "SoarHouse$Scores"
def TX6 : u_T := fun k => match k with
  | _ => ("SoarHouse$Scores", "table", "[I", true)
def tyX6 : Nat → FieldType := fun k => match k with
  | _ => .array .int
abbrev wsX60 : List Cond := u_ws RX6 TX6 1
theorem nmX6 : ∀ a, a < 1 → ∀ b, b < 1 → a ≠ b → (TX6 a).2.1 ≠ (TX6 b).2.1 := by decide +kernel
theorem tyX6_ok : ∀ k, k < 1 → parseFieldDescriptor (TX6 k).2.2.1 = some (tyX6 k) := by decide +kernel
abbrev cX6_init : ByteArray := prog_8_method_1_code
def yX6_init : MethodName := ⟨RX6, "<init>", "()V"⟩
abbrev cX6_weigh : ByteArray := prog_8_method_2_code
def yX6_weigh : MethodName := ⟨RX6, "weigh", "(LSoarHouse$Plan;LSoarHouse$Course;LSoarHouse$Traces;LSoarHouse$Trace;I)V"⟩
abbrev cX6_scoreOf : ByteArray := prog_8_method_3_code
def yX6_scoreOf : MethodName := ⟨RX6, "scoreOf", "(LSoarHouse$Law;I)I"⟩
abbrev cX6_rankOf : ByteArray := prog_8_method_4_code
def yX6_rankOf : MethodName := ⟨RX6, "rankOf", "(LSoarHouse$Law;II)I"⟩
def RX7 : String := "SoarHouse$Tokens"
def TX7 : u_T := fun k => match k with
  | 0 => ("SoarHouse$Tokens", "text", "[I", true)
  | 1 => ("SoarHouse$Tokens", "length", "I", false)
  | 2 => ("SoarHouse$Tokens", "at", "I", false)
  | 3 => ("SoarHouse$Tokens", "kind", "I", false)
  | 4 => ("SoarHouse$Tokens", "start", "I", false)
  | 5 => ("SoarHouse$Tokens", "value", "I", false)
  | 6 => ("SoarHouse$Tokens", "takenAt", "I", false)
  | 7 => ("SoarHouse$Tokens", "fault", "I", false)
  | _ => ("SoarHouse$Tokens", "faultPlace", "I", false)
def tyX7 : Nat → FieldType := fun k => match k with
  | 0 => .array .int
  | 1 => .int
  | 2 => .int
  | 3 => .int
  | 4 => .int
  | 5 => .int
  | 6 => .int
  | 7 => .int
  | _ => .int
abbrev wsX70 : List Cond := u_ws RX7 TX7 9
theorem nmX7 : ∀ a, a < 9 → ∀ b, b < 9 → a ≠ b → (TX7 a).2.1 ≠ (TX7 b).2.1 := by decide +kernel
theorem tyX7_ok : ∀ k, k < 9 → parseFieldDescriptor (TX7 k).2.2.1 = some (tyX7 k) := by decide +kernel
abbrev cX7_init : ByteArray := prog_9_method_1_code
def yX7_init : MethodName := ⟨RX7, "<init>", "([I)V"⟩
abbrev cX7_open : ByteArray := prog_9_method_2_code
def yX7_open : MethodName := ⟨RX7, "open", "(I)V"⟩
abbrev cX7_pass : ByteArray := prog_9_method_3_code
def yX7_pass : MethodName := ⟨RX7, "pass", "()V"⟩
abbrev cX7_runOf : ByteArray := prog_9_method_4_code
def yX7_runOf : MethodName := ⟨RX7, "runOf", "(CC)I"⟩
abbrev cX7_numberRead : ByteArray := prog_9_method_5_code
def yX7_numberRead : MethodName := ⟨RX7, "numberRead", "()I"⟩
abbrev cX7_knownWord : ByteArray := prog_9_method_6_code
def yX7_knownWord : MethodName := ⟨RX7, "knownWord", "()I"⟩
abbrev cX7_packedWord : ByteArray := prog_9_method_7_code
def yX7_packedWord : MethodName := ⟨RX7, "packedWord", "()J"⟩
abbrev cX7_wordLength : ByteArray := prog_9_method_8_code
def yX7_wordLength : MethodName := ⟨RX7, "wordLength", "()I"⟩
abbrev cX7_letterOfWord : ByteArray := prog_9_method_9_code
def yX7_letterOfWord : MethodName := ⟨RX7, "letterOfWord", "(I)I"⟩
abbrev cX7_isSign : ByteArray := prog_9_method_10_code
def yX7_isSign : MethodName := ⟨RX7, "isSign", "(C)Z"⟩
abbrev cX7_isWord : ByteArray := prog_9_method_11_code
def yX7_isWord : MethodName := ⟨RX7, "isWord", "(I)Z"⟩
abbrev cX7_takeSign : ByteArray := prog_9_method_12_code
def yX7_takeSign : MethodName := ⟨RX7, "takeSign", "(C)Z"⟩
abbrev cX7_takeWord : ByteArray := prog_9_method_13_code
def yX7_takeWord : MethodName := ⟨RX7, "takeWord", "(I)Z"⟩
abbrev cX7_takeNumber : ByteArray := prog_9_method_14_code
def yX7_takeNumber : MethodName := ⟨RX7, "takeNumber", "(II)I"⟩
abbrev cX7_refuse : ByteArray := prog_9_method_15_code
def yX7_refuse : MethodName := ⟨RX7, "refuse", "(I)Z"⟩
abbrev cX7_refuseTaken : ByteArray := prog_9_method_16_code
def yX7_refuseTaken : MethodName := ⟨RX7, "refuseTaken", "(I)Z"⟩
def RX8 : String := "SoarHouse$Trace"
def TX8 : u_T := fun k => match k with
  | 0 => ("SoarHouse$Trace", "lastOf", "[I", true)
  | 1 => ("SoarHouse$Trace", "steps", "[I", true)
  | 2 => ("SoarHouse$Trace", "cells", "[I", true)
  | 3 => ("SoarHouse$Trace", "heights", "[I", true)
  | 4 => ("SoarHouse$Trace", "count", "I", false)
  | 5 => ("SoarHouse$Trace", "rounded", "I", false)
  | _ => ("SoarHouse$Trace", "roundedBy", "I", false)
def tyX8 : Nat → FieldType := fun k => match k with
  | 0 => .array .int
  | 1 => .array .int
  | 2 => .array .int
  | 3 => .array .int
  | 4 => .int
  | 5 => .int
  | _ => .int
abbrev wsX80 : List Cond := u_ws RX8 TX8 7
theorem nmX8 : ∀ a, a < 7 → ∀ b, b < 7 → a ≠ b → (TX8 a).2.1 ≠ (TX8 b).2.1 := by decide +kernel
theorem tyX8_ok : ∀ k, k < 7 → parseFieldDescriptor (TX8 k).2.2.1 = some (tyX8 k) := by decide +kernel
abbrev cX8_init : ByteArray := prog_10_method_1_code
def yX8_init : MethodName := ⟨RX8, "<init>", "()V"⟩
abbrev cX8_gather : ByteArray := prog_10_method_2_code
def yX8_gather : MethodName := ⟨RX8, "gather", "(LSoarHouse$Traces;II)V"⟩
abbrev cX8_roundedAt : ByteArray := prog_10_method_3_code
def yX8_roundedAt : MethodName := ⟨RX8, "roundedAt", "(LSoarHouse$Course;II)I"⟩
abbrev cX8_roundLeast : ByteArray := prog_10_method_4_code
def yX8_roundLeast : MethodName := ⟨RX8, "roundLeast", "(LSoarHouse$Course;)V"⟩
abbrev cX8_mostRounded : ByteArray := prog_10_method_5_code
def yX8_mostRounded : MethodName := ⟨RX8, "mostRounded", "(LSoarHouse$Course;)I"⟩
abbrev cX8_canRoundBehind : ByteArray := prog_10_method_6_code
def yX8_canRoundBehind : MethodName := ⟨RX8, "canRoundBehind", "(LSoarHouse$Course;II)Z"⟩
abbrev cX8_timeOn : ByteArray := prog_10_method_7_code
def yX8_timeOn : MethodName := ⟨RX8, "timeOn", "(LSoarHouse$Course;)I"⟩
abbrev cX8_hasAll : ByteArray := prog_10_method_8_code
def yX8_hasAll : MethodName := ⟨RX8, "hasAll", "(LSoarHouse$Course;)Z"⟩
abbrev cX8_legOf : ByteArray := prog_10_method_9_code
def yX8_legOf : MethodName := ⟨RX8, "legOf", "(LSoarHouse$Course;I)I"⟩
abbrev cX8_legsOf : ByteArray := prog_10_method_10_code
def yX8_legsOf : MethodName := ⟨RX8, "legsOf", "(LSoarHouse$Course;)I"⟩
abbrev cX8_legsUpTo : ByteArray := prog_10_method_11_code
def yX8_legsUpTo : MethodName := ⟨RX8, "legsUpTo", "(LSoarHouse$Course;I)I"⟩
abbrev cX8_doneOn : ByteArray := prog_10_method_12_code
def yX8_doneOn : MethodName := ⟨RX8, "doneOn", "(LSoarHouse$Course;)I"⟩
abbrev cX8_wallsForSure : ByteArray := prog_10_method_13_code
def yX8_wallsForSure : MethodName := ⟨RX8, "wallsForSure", "(LSoarHouse$Plan;)I"⟩
abbrev cX8_wallsMaybe : ByteArray := prog_10_method_14_code
def yX8_wallsMaybe : MethodName := ⟨RX8, "wallsMaybe", "(LSoarHouse$Plan;)I"⟩
abbrev cX8_canEnterBehind : ByteArray := prog_10_method_15_code
def yX8_canEnterBehind : MethodName := ⟨RX8, "canEnterBehind", "(LSoarHouse$Plan;II)Z"⟩
def RX9 : String := "SoarHouse$Traces"
def TX9 : u_T := fun k => match k with
  | 0 => ("SoarHouse$Traces", "gliders", "[I", true)
  | 1 => ("SoarHouse$Traces", "pilots", "I", false)
  | 2 => ("SoarHouse$Traces", "pilotOf", "[I", true)
  | 3 => ("SoarHouse$Traces", "steps", "[I", true)
  | 4 => ("SoarHouse$Traces", "cells", "[I", true)
  | 5 => ("SoarHouse$Traces", "heights", "[I", true)
  | 6 => ("SoarHouse$Traces", "told", "[I", true)
  | 7 => ("SoarHouse$Traces", "untold", "[I", true)
  | 8 => ("SoarHouse$Traces", "fixes", "I", false)
  | _ => ("SoarHouse$Traces", "time", "I", false)
def tyX9 : Nat → FieldType := fun k => match k with
  | 0 => .array .int
  | 1 => .int
  | 2 => .array .int
  | 3 => .array .int
  | 4 => .array .int
  | 5 => .array .int
  | 6 => .array .int
  | 7 => .array .int
  | 8 => .int
  | _ => .int
abbrev wsX90 : List Cond := u_ws RX9 TX9 10
theorem nmX9 : ∀ a, a < 10 → ∀ b, b < 10 → a ≠ b → (TX9 a).2.1 ≠ (TX9 b).2.1 := by decide +kernel
theorem tyX9_ok : ∀ k, k < 10 → parseFieldDescriptor (TX9 k).2.2.1 = some (tyX9 k) := by decide +kernel
abbrev cX9_init : ByteArray := prog_11_method_1_code
def yX9_init : MethodName := ⟨RX9, "<init>", "()V"⟩
abbrev cX9_clear : ByteArray := prog_11_method_2_code
def yX9_clear : MethodName := ⟨RX9, "clear", "()V"⟩
abbrev cX9_hasPilot : ByteArray := prog_11_method_3_code
def yX9_hasPilot : MethodName := ⟨RX9, "hasPilot", "(I)Z"⟩
abbrev cX9_addPilot : ByteArray := prog_11_method_4_code
def yX9_addPilot : MethodName := ⟨RX9, "addPilot", "(I)I"⟩
abbrev cX9_addFix : ByteArray := prog_11_method_5_code
def yX9_addFix : MethodName := ⟨RX9, "addFix", "(IIII)I"⟩
abbrev cX9_takeBack : ByteArray := prog_11_method_6_code
def yX9_takeBack : MethodName := ⟨RX9, "takeBack", "(I)Z"⟩
abbrev cX9_goOn : ByteArray := prog_11_method_7_code
def yX9_goOn : MethodName := ⟨RX9, "goOn", "(I)I"⟩
abbrev cX9_counts : ByteArray := prog_11_method_8_code
def yX9_counts : MethodName := ⟨RX9, "counts", "(II)Z"⟩
def RX10 : String := "SoarHouse$Trailers"
def TX10 : u_T := fun k => match k with
  | 0 => ("SoarHouse$Trailers", "cells", "[I", true)
  | 1 => ("SoarHouse$Trailers", "count", "I", false)
  | 2 => ("SoarHouse$Trailers", "distances", "[I", true)
  | 3 => ("SoarHouse$Trailers", "loads", "[I", true)
  | 4 => ("SoarHouse$Trailers", "tried", "[I", true)
  | 5 => ("SoarHouse$Trailers", "chosen", "[I", true)
  | _ => ("SoarHouse$Trailers", "best", "I", false)
def tyX10 : Nat → FieldType := fun k => match k with
  | 0 => .array .int
  | 1 => .int
  | 2 => .array .int
  | 3 => .array .int
  | 4 => .array .int
  | 5 => .array .int
  | _ => .int
abbrev wsX100 : List Cond := u_ws RX10 TX10 7
theorem nmX10 : ∀ a, a < 7 → ∀ b, b < 7 → a ≠ b → (TX10 a).2.1 ≠ (TX10 b).2.1 := by decide +kernel
theorem tyX10_ok : ∀ k, k < 7 → parseFieldDescriptor (TX10 k).2.2.1 = some (tyX10 k) := by decide +kernel
abbrev cX10_init : ByteArray := prog_12_method_1_code
def yX10_init : MethodName := ⟨RX10, "<init>", "()V"⟩
abbrev cX10_clear : ByteArray := prog_12_method_2_code
def yX10_clear : MethodName := ⟨RX10, "clear", "()I"⟩
abbrev cX10_lay : ByteArray := prog_12_method_3_code
def yX10_lay : MethodName := ⟨RX10, "lay", "(I)I"⟩
abbrev cX10_minutesBetween : ByteArray := prog_12_method_4_code
def yX10_minutesBetween : MethodName := ⟨RX10, "minutesBetween", "(LSoarHouse$Plan;II)I"⟩
abbrev cX10_measure : ByteArray := prog_12_method_5_code
def yX10_measure : MethodName := ⟨RX10, "measure", "(LSoarHouse$Plan;I)V"⟩
abbrev cX10_share : ByteArray := prog_12_method_6_code
def yX10_share : MethodName := ⟨RX10, "share", "(LSoarHouse$Plan;II)Z"⟩
abbrev cX10_give : ByteArray := prog_12_method_7_code
def yX10_give : MethodName := ⟨RX10, "give", "(III)V"⟩
def RX11 : String := "SoarHouse"
def TX11 : u_T := fun k => match k with
  | 0 => ("SoarHouse", "tape", "[I", true)
  | 1 => ("SoarHouse", "bytes", "I", false)
  | 2 => ("SoarHouse", "tokens", "LSoarHouse$Tokens;", true)
  | 3 => ("SoarHouse", "plan", "LSoarHouse$Plan;", false)
  | 4 => ("SoarHouse", "spare", "LSoarHouse$Plan;", false)
  | 5 => ("SoarHouse", "planReader", "LSoarHouse$PlanReader;", true)
  | 6 => ("SoarHouse", "law", "LSoarHouse$Law;", true)
  | 7 => ("SoarHouse", "faultNumber", "I", false)
  | 8 => ("SoarHouse", "faultPlace", "I", false)
  | 9 => ("SoarHouse", "course", "LSoarHouse$Course;", true)
  | 10 => ("SoarHouse", "flight", "LSoarHouse$Flight;", true)
  | 11 => ("SoarHouse", "launches", "LSoarHouse$Launches;", true)
  | 12 => ("SoarHouse", "traces", "LSoarHouse$Traces;", true)
  | 13 => ("SoarHouse", "trace", "LSoarHouse$Trace;", true)
  | 14 => ("SoarHouse", "scores", "LSoarHouse$Scores;", true)
  | _ => ("SoarHouse", "trailers", "LSoarHouse$Trailers;", true)
def tyX11 : Nat → FieldType := fun k => match k with
  | 0 => .array .int
  | 1 => .int
  | 2 => .object "SoarHouse$Tokens"
  | 3 => .object "SoarHouse$Plan"
  | 4 => .object "SoarHouse$Plan"
  | 5 => .object "SoarHouse$PlanReader"
  | 6 => .object "SoarHouse$Law"
  | 7 => .int
  | 8 => .int
  | 9 => .object "SoarHouse$Course"
  | 10 => .object "SoarHouse$Flight"
  | 11 => .object "SoarHouse$Launches"
  | 12 => .object "SoarHouse$Traces"
  | 13 => .object "SoarHouse$Trace"
  | 14 => .object "SoarHouse$Scores"
  | _ => .object "SoarHouse$Trailers"
abbrev wsX110 : List Cond := u_ws RX11 TX11 16
theorem nmX11 : ∀ a, a < 16 → ∀ b, b < 16 → a ≠ b → (TX11 a).2.1 ≠ (TX11 b).2.1 := by decide +kernel
theorem tyX11_ok : ∀ k, k < 16 → parseFieldDescriptor (TX11 k).2.2.1 = some (tyX11 k) := by decide +kernel
abbrev cX11_init : ByteArray := prog_1_method_1_code
def yX11_init : MethodName := ⟨RX11, "<init>", "()V"⟩
abbrev cX11_feed : ByteArray := prog_1_method_2_code
def yX11_feed : MethodName := ⟨RX11, "feed", "(IIIII)I"⟩
abbrev cX11_end : ByteArray := prog_1_method_3_code
def yX11_end : MethodName := ⟨RX11, "end", "(I)I"⟩
abbrev cX11_map : ByteArray := prog_1_method_4_code
def yX11_map : MethodName := ⟨RX11, "map", "()I"⟩
abbrev cX11_law : ByteArray := prog_1_method_5_code
def yX11_law : MethodName := ⟨RX11, "law", "()I"⟩
abbrev cX11_fault : ByteArray := prog_1_method_6_code
def yX11_fault : MethodName := ⟨RX11, "fault", "(I)I"⟩
abbrev cX11_lift : ByteArray := prog_1_method_7_code
def yX11_lift : MethodName := ⟨RX11, "lift", "(II)I"⟩
abbrev cX11_wind : ByteArray := prog_1_method_8_code
def yX11_wind : MethodName := ⟨RX11, "wind", "(I)I"⟩
abbrev cX11_top : ByteArray := prog_1_method_9_code
def yX11_top : MethodName := ⟨RX11, "top", "(I)I"⟩
abbrev cX11_shut : ByteArray := prog_1_method_10_code
def yX11_shut : MethodName := ⟨RX11, "shut", "(III)I"⟩
abbrev cX11_move : ByteArray := prog_1_method_11_code
def yX11_move : MethodName := ⟨RX11, "move", "(IIIII)I"⟩
abbrev cX11_task : ByteArray := prog_1_method_12_code
def yX11_task : MethodName := ⟨RX11, "task", "(IIII)Z"⟩
abbrev cX11_soonest : ByteArray := prog_1_method_13_code
def yX11_soonest : MethodName := ⟨RX11, "soonest", "(IIIII)I"⟩
abbrev cX11_way : ByteArray := prog_1_method_14_code
def yX11_way : MethodName := ⟨RX11, "way", "(IIIIII)I"⟩
abbrev cX11_safe : ByteArray := prog_1_method_15_code
def yX11_safe : MethodName := ⟨RX11, "safe", "(IIII)I"⟩
abbrev cX11_field : ByteArray := prog_1_method_16_code
def yX11_field : MethodName := ⟨RX11, "field", "(III)Z"⟩
abbrev cX11_launch : ByteArray := prog_1_method_17_code
def yX11_launch : MethodName := ⟨RX11, "launch", "(ZI)I"⟩
abbrev cX11_launched : ByteArray := prog_1_method_18_code
def yX11_launched : MethodName := ⟨RX11, "launched", "(II)I"⟩
abbrev cX11_pilot : ByteArray := prog_1_method_19_code
def yX11_pilot : MethodName := ⟨RX11, "pilot", "(I)I"⟩
abbrev cX11_fix : ByteArray := prog_1_method_20_code
def yX11_fix : MethodName := ⟨RX11, "fix", "(IIII)I"⟩
abbrev cX11_untell : ByteArray := prog_1_method_21_code
def yX11_untell : MethodName := ⟨RX11, "untell", "(I)Z"⟩
abbrev cX11_later : ByteArray := prog_1_method_22_code
def yX11_later : MethodName := ⟨RX11, "later", "(I)I"⟩
abbrev cX11_zone : ByteArray := prog_1_method_23_code
def yX11_zone : MethodName := ⟨RX11, "zone", "(I)Z"⟩
abbrev cX11_rounded : ByteArray := prog_1_method_24_code
def yX11_rounded : MethodName := ⟨RX11, "rounded", "(IZI)I"⟩
abbrev cX11_flown : ByteArray := prog_1_method_25_code
def yX11_flown : MethodName := ⟨RX11, "flown", "(III)I"⟩
abbrev cX11_score : ByteArray := prog_1_method_26_code
def yX11_score : MethodName := ⟨RX11, "score", "(II)I"⟩
abbrev cX11_rank : ByteArray := prog_1_method_27_code
def yX11_rank : MethodName := ⟨RX11, "rank", "(II)I"⟩
abbrev cX11_out : ByteArray := prog_1_method_28_code
def yX11_out : MethodName := ⟨RX11, "out", "(I)I"⟩
abbrev cX11_fetched : ByteArray := prog_1_method_29_code
def yX11_fetched : MethodName := ⟨RX11, "fetched", "()I"⟩
abbrev cX11_minutes : ByteArray := prog_1_method_30_code
def yX11_minutes : MethodName := ⟨RX11, "minutes", "(II)I"⟩
abbrev cX11_home : ByteArray := prog_1_method_31_code
def yX11_home : MethodName := ⟨RX11, "home", "(II)I"⟩
abbrev cX11_trailer : ByteArray := prog_1_method_32_code
def yX11_trailer : MethodName := ⟨RX11, "trailer", "(III)I"⟩
abbrev cX11_about : ByteArray := prog_1_method_33_code
def yX11_about : MethodName := ⟨RX11, "about", "(I)I"⟩
abbrev cX11_putFour : ByteArray := prog_1_method_34_code
def yX11_putFour : MethodName := ⟨RX11, "putFour", "(I)V"⟩
abbrev cX11_keepFault : ByteArray := prog_1_method_35_code
def yX11_keepFault : MethodName := ⟨RX11, "keepFault", "()V"⟩
abbrev cX11_canBegin : ByteArray := prog_1_method_36_code
def yX11_canBegin : MethodName := ⟨RX11, "canBegin", "(IIII)Z"⟩
abbrev cX11_fly : ByteArray := prog_1_method_37_code
def yX11_fly : MethodName := ⟨RX11, "fly", "(IIIII)Z"⟩
abbrev cX11_canJudge : ByteArray := prog_1_method_38_code
def yX11_canJudge : MethodName := ⟨RX11, "canJudge", "(I)Z"⟩
abbrev cX11_bringHome : ByteArray := prog_1_method_39_code
def yX11_bringHome : MethodName := ⟨RX11, "bringHome", "(II)Z"⟩
abbrev cX11_isCell : ByteArray := prog_1_method_40_code
def yX11_isCell : MethodName := ⟨RX11, "isCell", "(I)Z"⟩
abbrev cX11_isHour : ByteArray := prog_1_method_41_code
def yX11_isHour : MethodName := ⟨RX11, "isHour", "(I)Z"⟩
abbrev cX11_isHeight : ByteArray := prog_1_method_42_code
def yX11_isHeight : MethodName := ⟨RX11, "isHeight", "(I)Z"⟩
abbrev cX11_isPlace : ByteArray := prog_1_method_43_code
def yX11_isPlace : MethodName := ⟨RX11, "isPlace", "(III)Z"⟩
abbrev cX11_neighbour : ByteArray := prog_1_method_44_code
def yX11_neighbour : MethodName := ⟨RX11, "neighbour", "(II)I"⟩
abbrev cX11_apart : ByteArray := prog_1_method_45_code
def yX11_apart : MethodName := ⟨RX11, "apart", "(II)I"⟩
def RX12 : String := "SoarHouseModel"
def TX12 : u_T := fun k => match k with
  | 0 => ("SoarHouseModel", "tape", "[B", true)
  | 1 => ("SoarHouseModel", "text", "[B", true)
  | 2 => ("SoarHouseModel", "taped", "I", false)
  | 3 => ("SoarHouseModel", "size", "I", false)
  | 4 => ("SoarHouseModel", "faultKind", "I", false)
  | 5 => ("SoarHouseModel", "faultPlace", "I", false)
  | 6 => ("SoarHouseModel", "at", "I", false)
  | 7 => ("SoarHouseModel", "end", "I", false)
  | 8 => ("SoarHouseModel", "token", "I", false)
  | 9 => ("SoarHouseModel", "number", "I", false)
  | 10 => ("SoarHouseModel", "name", "J", false)
  | 11 => ("SoarHouseModel", "lineMany", "[I", true)
  | 12 => ("SoarHouseModel", "wallMany", "[I", true)
  | 13 => ("SoarHouseModel", "fieldMany", "[I", true)
  | 14 => ("SoarHouseModel", "roadMany", "[I", true)
  | 15 => ("SoarHouseModel", "gliderMany", "[I", true)
  | 16 => ("SoarHouseModel", "ground", "[I", true)
  | 17 => ("SoarHouseModel", "lifts", "[I", true)
  | 18 => ("SoarHouseModel", "windWay", "[I", true)
  | 19 => ("SoarHouseModel", "windForce", "[I", true)
  | 20 => ("SoarHouseModel", "tops", "[I", true)
  | 21 => ("SoarHouseModel", "wCell", "[I", true)
  | 22 => ("SoarHouseModel", "wAbove", "[I", true)
  | 23 => ("SoarHouseModel", "wFrom", "[I", true)
  | 24 => ("SoarHouseModel", "wTo", "[I", true)
  | 25 => ("SoarHouseModel", "rA", "[I", true)
  | 26 => ("SoarHouseModel", "rB", "[I", true)
  | 27 => ("SoarHouseModel", "rMinutes", "[I", true)
  | 28 => ("SoarHouseModel", "sinks", "[I", true)
  | 29 => ("SoarHouseModel", "handicaps", "[I", true)
  | 30 => ("SoarHouseModel", "gName", "[J", true)
  | 31 => ("SoarHouseModel", "hasRow", "[Z", true)
  | 32 => ("SoarHouseModel", "hasLift", "[Z", true)
  | 33 => ("SoarHouseModel", "isField", "[Z", true)
  | 34 => ("SoarHouseModel", "bank", "I", false)
  | 35 => ("SoarHouseModel", "rb", "I", false)
  | 36 => ("SoarHouseModel", "toCell", "I", false)
  | 37 => ("SoarHouseModel", "toMoment", "I", false)
  | 38 => ("SoarHouseModel", "toHeight", "I", false)
  | 39 => ("SoarHouseModel", "points", "[I", true)
  | 40 => ("SoarHouseModel", "pointMany", "I", false)
  | 41 => ("SoarHouseModel", "hasTask", "Z", false)
  | 42 => ("SoarHouseModel", "ends", "[I", true)
  | 43 => ("SoarHouseModel", "endsGlider", "I", false)
  | 44 => ("SoarHouseModel", "endsFinish", "I", false)
  | 45 => ("SoarHouseModel", "moves", "[I", true)
  | 46 => ("SoarHouseModel", "moveMany", "I", false)
  | 47 => ("SoarHouseModel", "canBe", "[Z", true)
  | 48 => ("SoarHouseModel", "uAsked", "[I", true)
  | 49 => ("SoarHouseModel", "uBegins", "[I", true)
  | 50 => ("SoarHouseModel", "uPlane", "[I", true)
  | 51 => ("SoarHouseModel", "isTow", "[Z", true)
  | 52 => ("SoarHouseModel", "launches", "I", false)
  | 53 => ("SoarHouseModel", "winch", "I", false)
  | 54 => ("SoarHouseModel", "planes", "I", false)
  | 55 => ("SoarHouseModel", "tow", "I", false)
  | 56 => ("SoarHouseModel", "freeAt", "[I", true)
  | 57 => ("SoarHouseModel", "pGlider", "[I", true)
  | 58 => ("SoarHouseModel", "fPilot", "[I", true)
  | 59 => ("SoarHouseModel", "fStep", "[I", true)
  | 60 => ("SoarHouseModel", "fCell", "[I", true)
  | 61 => ("SoarHouseModel", "fHeight", "[I", true)
  | 62 => ("SoarHouseModel", "fTold", "[I", true)
  | 63 => ("SoarHouseModel", "fUntold", "[I", true)
  | 64 => ("SoarHouseModel", "pilots", "I", false)
  | 65 => ("SoarHouseModel", "fixes", "I", false)
  | 66 => ("SoarHouseModel", "time", "I", false)
  | 67 => ("SoarHouseModel", "zone", "I", false)
  | 68 => ("SoarHouseModel", "nStep", "[I", true)
  | 69 => ("SoarHouseModel", "nCell", "[I", true)
  | 70 => ("SoarHouseModel", "nHeight", "[I", true)
  | 71 => ("SoarHouseModel", "onStep", "[I", true)
  | 72 => ("SoarHouseModel", "many", "I", false)
  | 73 => ("SoarHouseModel", "byFix", "[I", true)
  | 74 => ("SoarHouseModel", "code", "[I", true)
  | 75 => ("SoarHouseModel", "codeNumber", "[I", true)
  | 76 => ("SoarHouseModel", "codes", "[I", true)
  | 77 => ("SoarHouseModel", "eWhat", "[I", true)
  | 78 => ("SoarHouseModel", "eSign", "[I", true)
  | 79 => ("SoarHouseModel", "pile", "[I", true)
  | 80 => ("SoarHouseModel", "lawBank", "I", false)
  | 81 => ("SoarHouseModel", "lb", "I", false)
  | 82 => ("SoarHouseModel", "units", "I", false)
  | 83 => ("SoarHouseModel", "deep", "I", false)
  | 84 => ("SoarHouseModel", "piled", "I", false)
  | 85 => ("SoarHouseModel", "hasLaw", "Z", false)
  | 86 => ("SoarHouseModel", "qDone", "I", false)
  | 87 => ("SoarHouseModel", "qLegs", "I", false)
  | 88 => ("SoarHouseModel", "qTime", "I", false)
  | 89 => ("SoarHouseModel", "qHandicap", "I", false)
  | 90 => ("SoarHouseModel", "qBest", "I", false)
  | 91 => ("SoarHouseModel", "qFirst", "I", false)
  | 92 => ("SoarHouseModel", "qWalls", "I", false)
  | 93 => ("SoarHouseModel", "qRounded", "I", false)
  | 94 => ("SoarHouseModel", "far", "[I", true)
  | 95 => ("SoarHouseModel", "outCell", "[I", true)
  | 96 => ("SoarHouseModel", "fetcher", "[I", true)
  | 97 => ("SoarHouseModel", "tried", "[I", true)
  | 98 => ("SoarHouseModel", "load", "[I", true)
  | _ => ("SoarHouseModel", "outs", "I", false)
def tyX12 : Nat → FieldType := fun k => match k with
  | 0 => .array .byte
  | 1 => .array .byte
  | 2 => .int
  | 3 => .int
  | 4 => .int
  | 5 => .int
  | 6 => .int
  | 7 => .int
  | 8 => .int
  | 9 => .int
  | 10 => .long
  | 11 => .array .int
  | 12 => .array .int
  | 13 => .array .int
  | 14 => .array .int
  | 15 => .array .int
  | 16 => .array .int
  | 17 => .array .int
  | 18 => .array .int
  | 19 => .array .int
  | 20 => .array .int
  | 21 => .array .int
  | 22 => .array .int
  | 23 => .array .int
  | 24 => .array .int
  | 25 => .array .int
  | 26 => .array .int
  | 27 => .array .int
  | 28 => .array .int
  | 29 => .array .int
  | 30 => .array .long
  | 31 => .array .boolean
  | 32 => .array .boolean
  | 33 => .array .boolean
  | 34 => .int
  | 35 => .int
  | 36 => .int
  | 37 => .int
  | 38 => .int
  | 39 => .array .int
  | 40 => .int
  | 41 => .boolean
  | 42 => .array .int
  | 43 => .int
  | 44 => .int
  | 45 => .array .int
  | 46 => .int
  | 47 => .array .boolean
  | 48 => .array .int
  | 49 => .array .int
  | 50 => .array .int
  | 51 => .array .boolean
  | 52 => .int
  | 53 => .int
  | 54 => .int
  | 55 => .int
  | 56 => .array .int
  | 57 => .array .int
  | 58 => .array .int
  | 59 => .array .int
  | 60 => .array .int
  | 61 => .array .int
  | 62 => .array .int
  | 63 => .array .int
  | 64 => .int
  | 65 => .int
  | 66 => .int
  | 67 => .int
  | 68 => .array .int
  | 69 => .array .int
  | 70 => .array .int
  | 71 => .array .int
  | 72 => .int
  | 73 => .array .int
  | 74 => .array .int
  | 75 => .array .int
  | 76 => .array .int
  | 77 => .array .int
  | 78 => .array .int
  | 79 => .array .int
  | 80 => .int
  | 81 => .int
  | 82 => .int
  | 83 => .int
  | 84 => .int
  | 85 => .boolean
  | 86 => .int
  | 87 => .int
  | 88 => .int
  | 89 => .int
  | 90 => .int
  | 91 => .int
  | 92 => .int
  | 93 => .int
  | 94 => .array .int
  | 95 => .array .int
  | 96 => .array .int
  | 97 => .array .int
  | 98 => .array .int
  | _ => .int
abbrev wsX120 : List Cond := u_ws RX12 TX12 100
theorem nmX12 : ∀ a, a < 100 → ∀ b, b < 100 → a ≠ b → (TX12 a).2.1 ≠ (TX12 b).2.1 := by decide +kernel
theorem tyX12_ok : ∀ k, k < 100 → parseFieldDescriptor (TX12 k).2.2.1 = some (tyX12 k) := by decide +kernel
abbrev cX12_sign : ByteArray := prog_14_method_1_code
def yX12_sign : MethodName := ⟨RX12, "sign", "(I)I"⟩
abbrev cX12_isLetter : ByteArray := prog_14_method_2_code
def yX12_isLetter : MethodName := ⟨RX12, "isLetter", "(I)Z"⟩
abbrev cX12_isDigit : ByteArray := prog_14_method_3_code
def yX12_isDigit : MethodName := ⟨RX12, "isDigit", "(I)Z"⟩
abbrev cX12_fails : ByteArray := prog_14_method_4_code
def yX12_fails : MethodName := ⟨RX12, "fails", "(II)V"⟩
abbrev cX12_isGood : ByteArray := prog_14_method_5_code
def yX12_isGood : MethodName := ⟨RX12, "isGood", "()Z"⟩
abbrev cX12_isKept : ByteArray := prog_14_method_6_code
def yX12_isKept : MethodName := ⟨RX12, "isKept", "(J)Z"⟩
abbrev cX12_isSign : ByteArray := prog_14_method_7_code
def yX12_isSign : MethodName := ⟨RX12, "isSign", "(I)Z"⟩
abbrev cX12_next : ByteArray := prog_14_method_8_code
def yX12_next : MethodName := ⟨RX12, "next", "()V"⟩
abbrev cX12_is : ByteArray := prog_14_method_9_code
def yX12_is : MethodName := ⟨RX12, "is", "(I)Z"⟩
abbrev cX12_isWord : ByteArray := prog_14_method_10_code
def yX12_isWord : MethodName := ⟨RX12, "isWord", "(J)Z"⟩
abbrev cX12_wrong : ByteArray := prog_14_method_11_code
def yX12_wrong : MethodName := ⟨RX12, "wrong", "()V"⟩
abbrev cX12_must : ByteArray := prog_14_method_12_code
def yX12_must : MethodName := ⟨RX12, "must", "(Z)V"⟩
abbrev cX12_numeral : ByteArray := prog_14_method_13_code
def yX12_numeral : MethodName := ⟨RX12, "numeral", "(II)I"⟩
abbrev cX12_takeTape : ByteArray := prog_14_method_14_code
def yX12_takeTape : MethodName := ⟨RX12, "takeTape", "()V"⟩
abbrev cX12_beginMap : ByteArray := prog_14_method_15_code
def yX12_beginMap : MethodName := ⟨RX12, "beginMap", "()V"⟩
abbrev cX12_init : ByteArray := prog_14_method_16_code
def yX12_init : MethodName := ⟨RX12, "<init>", "()V"⟩
abbrev cX12_map : ByteArray := prog_14_method_17_code
def yX12_map : MethodName := ⟨RX12, "map", "()I"⟩
abbrev cX12_readLine : ByteArray := prog_14_method_18_code
def yX12_readLine : MethodName := ⟨RX12, "readLine", "()V"⟩
abbrev cX12_fresh : ByteArray := prog_14_method_19_code
def yX12_fresh : MethodName := ⟨RX12, "fresh", "(I[Z)I"⟩
abbrev cX12_isGround : ByteArray := prog_14_method_20_code
def yX12_isGround : MethodName := ⟨RX12, "isGround", "(I)Z"⟩
abbrev cX12_isGrounds : ByteArray := prog_14_method_21_code
def yX12_isGrounds : MethodName := ⟨RX12, "isGrounds", "(I)Z"⟩
abbrev cX12_readRow : ByteArray := prog_14_method_22_code
def yX12_readRow : MethodName := ⟨RX12, "readRow", "()V"⟩
abbrev cX12_readLift : ByteArray := prog_14_method_23_code
def yX12_readLift : MethodName := ⟨RX12, "readLift", "()V"⟩
abbrev cX12_hourFor : ByteArray := prog_14_method_24_code
def yX12_hourFor : MethodName := ⟨RX12, "hourFor", "([I)I"⟩
abbrev cX12_readWind : ByteArray := prog_14_method_25_code
def yX12_readWind : MethodName := ⟨RX12, "readWind", "()V"⟩
abbrev cX12_readTop : ByteArray := prog_14_method_26_code
def yX12_readTop : MethodName := ⟨RX12, "readTop", "()V"⟩
abbrev cX12_cell : ByteArray := prog_14_method_27_code
def yX12_cell : MethodName := ⟨RX12, "cell", "()I"⟩
abbrev cX12_readWall : ByteArray := prog_14_method_28_code
def yX12_readWall : MethodName := ⟨RX12, "readWall", "()V"⟩
abbrev cX12_readField : ByteArray := prog_14_method_29_code
def yX12_readField : MethodName := ⟨RX12, "readField", "()V"⟩
abbrev cX12_readRoad : ByteArray := prog_14_method_30_code
def yX12_readRoad : MethodName := ⟨RX12, "readRoad", "()V"⟩
abbrev cX12_readGlider : ByteArray := prog_14_method_31_code
def yX12_readGlider : MethodName := ⟨RX12, "readGlider", "()V"⟩
abbrev cX12_fault : ByteArray := prog_14_method_32_code
def yX12_fault : MethodName := ⟨RX12, "fault", "(I)I"⟩
abbrev cX12_isCell : ByteArray := prog_14_method_33_code
def yX12_isCell : MethodName := ⟨RX12, "isCell", "(I)Z"⟩
abbrev cX12_isHour : ByteArray := prog_14_method_34_code
def yX12_isHour : MethodName := ⟨RX12, "isHour", "(I)Z"⟩
abbrev cX12_liftOf : ByteArray := prog_14_method_35_code
def yX12_liftOf : MethodName := ⟨RX12, "liftOf", "(II)I"⟩
abbrev cX12_lift : ByteArray := prog_14_method_36_code
def yX12_lift : MethodName := ⟨RX12, "lift", "(II)I"⟩
abbrev cX12_latest : ByteArray := prog_14_method_37_code
def yX12_latest : MethodName := ⟨RX12, "latest", "([II)I"⟩
abbrev cX12_wayOf : ByteArray := prog_14_method_38_code
def yX12_wayOf : MethodName := ⟨RX12, "wayOf", "(I)I"⟩
abbrev cX12_forceOf : ByteArray := prog_14_method_39_code
def yX12_forceOf : MethodName := ⟨RX12, "forceOf", "(I)I"⟩
abbrev cX12_topOf : ByteArray := prog_14_method_40_code
def yX12_topOf : MethodName := ⟨RX12, "topOf", "(I)I"⟩
abbrev cX12_wind : ByteArray := prog_14_method_41_code
def yX12_wind : MethodName := ⟨RX12, "wind", "(I)I"⟩
abbrev cX12_top : ByteArray := prog_14_method_42_code
def yX12_top : MethodName := ⟨RX12, "top", "(I)I"⟩
abbrev cX12_isShut : ByteArray := prog_14_method_43_code
def yX12_isShut : MethodName := ⟨RX12, "isShut", "(III)Z"⟩
abbrev cX12_isMoment : ByteArray := prog_14_method_44_code
def yX12_isMoment : MethodName := ⟨RX12, "isMoment", "(I)Z"⟩
abbrev cX12_isHeight : ByteArray := prog_14_method_45_code
def yX12_isHeight : MethodName := ⟨RX12, "isHeight", "(I)Z"⟩
abbrev cX12_shut : ByteArray := prog_14_method_46_code
def yX12_shut : MethodName := ⟨RX12, "shut", "(III)I"⟩
abbrev cX12_isGlider : ByteArray := prog_14_method_47_code
def yX12_isGlider : MethodName := ⟨RX12, "isGlider", "(I)Z"⟩
abbrev cX12_dx : ByteArray := prog_14_method_48_code
def yX12_dx : MethodName := ⟨RX12, "dx", "(I)I"⟩
abbrev cX12_dy : ByteArray := prog_14_method_49_code
def yX12_dy : MethodName := ⟨RX12, "dy", "(I)I"⟩
abbrev cX12_leads : ByteArray := prog_14_method_50_code
def yX12_leads : MethodName := ⟨RX12, "leads", "(IIIII)Z"⟩
abbrev cX12_canBegin : ByteArray := prog_14_method_51_code
def yX12_canBegin : MethodName := ⟨RX12, "canBegin", "(IIII)Z"⟩
abbrev cX12_move : ByteArray := prog_14_method_52_code
def yX12_move : MethodName := ⟨RX12, "move", "(IIIII)I"⟩
abbrev cX12_task : ByteArray := prog_14_method_53_code
def yX12_task : MethodName := ⟨RX12, "task", "(IIII)Z"⟩
abbrev cX12_add : ByteArray := prog_14_method_54_code
def yX12_add : MethodName := ⟨RX12, "add", "(I)V"⟩
abbrev cX12_roundedIn : ByteArray := prog_14_method_55_code
def yX12_roundedIn : MethodName := ⟨RX12, "roundedIn", "(II)I"⟩
abbrev cX12_spot : ByteArray := prog_14_method_56_code
def yX12_spot : MethodName := ⟨RX12, "spot", "(IIII)I"⟩
abbrev cX12_isFlown : ByteArray := prog_14_method_57_code
def yX12_isFlown : MethodName := ⟨RX12, "isFlown", "(IIII)Z"⟩
abbrev cX12_endBy : ByteArray := prog_14_method_58_code
def yX12_endBy : MethodName := ⟨RX12, "endBy", "(IIIIII)I"⟩
abbrev cX12_reckon : ByteArray := prog_14_method_59_code
def yX12_reckon : MethodName := ⟨RX12, "reckon", "(II)V"⟩
abbrev cX12_fly : ByteArray := prog_14_method_60_code
def yX12_fly : MethodName := ⟨RX12, "fly", "(IIIII)I"⟩
abbrev cX12_soonest : ByteArray := prog_14_method_61_code
def yX12_soonest : MethodName := ⟨RX12, "soonest", "(IIIII)I"⟩
abbrev cX12_way : ByteArray := prog_14_method_62_code
def yX12_way : MethodName := ⟨RX12, "way", "(IIIIII)I"⟩
abbrev cX12_safe : ByteArray := prog_14_method_63_code
def yX12_safe : MethodName := ⟨RX12, "safe", "(IIII)I"⟩
abbrev cX12_glide : ByteArray := prog_14_method_64_code
def yX12_glide : MethodName := ⟨RX12, "glide", "(IIII)V"⟩
abbrev cX12_isComeTo : ByteArray := prog_14_method_65_code
def yX12_isComeTo : MethodName := ⟨RX12, "isComeTo", "(II)Z"⟩
abbrev cX12_isIn : ByteArray := prog_14_method_66_code
def yX12_isIn : MethodName := ⟨RX12, "isIn", "(III)Z"⟩
abbrev cX12_field : ByteArray := prog_14_method_67_code
def yX12_field : MethodName := ⟨RX12, "field", "(III)Z"⟩
abbrev cX12_launch : ByteArray := prog_14_method_68_code
def yX12_launch : MethodName := ⟨RX12, "launch", "(ZI)I"⟩
abbrev cX12_queue : ByteArray := prog_14_method_69_code
def yX12_queue : MethodName := ⟨RX12, "queue", "()V"⟩
abbrev cX12_launched : ByteArray := prog_14_method_70_code
def yX12_launched : MethodName := ⟨RX12, "launched", "(II)I"⟩
abbrev cX12_isPilot : ByteArray := prog_14_method_71_code
def yX12_isPilot : MethodName := ⟨RX12, "isPilot", "(I)Z"⟩
abbrev cX12_pilot : ByteArray := prog_14_method_72_code
def yX12_pilot : MethodName := ⟨RX12, "pilot", "(I)I"⟩
abbrev cX12_fix : ByteArray := prog_14_method_73_code
def yX12_fix : MethodName := ⟨RX12, "fix", "(IIII)I"⟩
abbrev cX12_untell : ByteArray := prog_14_method_74_code
def yX12_untell : MethodName := ⟨RX12, "untell", "(I)Z"⟩
abbrev cX12_later : ByteArray := prog_14_method_75_code
def yX12_later : MethodName := ⟨RX12, "later", "(I)I"⟩
abbrev cX12_zone : ByteArray := prog_14_method_76_code
def yX12_zone : MethodName := ⟨RX12, "zone", "(I)Z"⟩
abbrev cX12_plain : ByteArray := prog_14_method_77_code
def yX12_plain : MethodName := ⟨RX12, "plain", "(I)I"⟩
abbrev cX12_apart : ByteArray := prog_14_method_78_code
def yX12_apart : MethodName := ⟨RX12, "apart", "(II)I"⟩
abbrev cX12_trace : ByteArray := prog_14_method_79_code
def yX12_trace : MethodName := ⟨RX12, "trace", "(II)V"⟩
abbrev cX12_isAtPoint : ByteArray := prog_14_method_80_code
def yX12_isAtPoint : MethodName := ⟨RX12, "isAtPoint", "(II)Z"⟩
abbrev cX12_leastRounded : ByteArray := prog_14_method_81_code
def yX12_leastRounded : MethodName := ⟨RX12, "leastRounded", "()I"⟩
abbrev cX12_toZone : ByteArray := prog_14_method_82_code
def yX12_toZone : MethodName := ⟨RX12, "toZone", "(II)I"⟩
abbrev cX12_mostRounded : ByteArray := prog_14_method_83_code
def yX12_mostRounded : MethodName := ⟨RX12, "mostRounded", "()I"⟩
abbrev cX12_rounded : ByteArray := prog_14_method_84_code
def yX12_rounded : MethodName := ⟨RX12, "rounded", "(IZI)I"⟩
abbrev cX12_lengthOf : ByteArray := prog_14_method_85_code
def yX12_lengthOf : MethodName := ⟨RX12, "lengthOf", "(I)I"⟩
abbrev cX12_legsOf : ByteArray := prog_14_method_86_code
def yX12_legsOf : MethodName := ⟨RX12, "legsOf", "()I"⟩
abbrev cX12_doneOf : ByteArray := prog_14_method_87_code
def yX12_doneOf : MethodName := ⟨RX12, "doneOf", "()I"⟩
abbrev cX12_timeOf : ByteArray := prog_14_method_88_code
def yX12_timeOf : MethodName := ⟨RX12, "timeOf", "()I"⟩
abbrev cX12_sureWalls : ByteArray := prog_14_method_89_code
def yX12_sureWalls : MethodName := ⟨RX12, "sureWalls", "()I"⟩
abbrev cX12_mayEnter : ByteArray := prog_14_method_90_code
def yX12_mayEnter : MethodName := ⟨RX12, "mayEnter", "(II)Z"⟩
abbrev cX12_maybeWalls : ByteArray := prog_14_method_91_code
def yX12_maybeWalls : MethodName := ⟨RX12, "maybeWalls", "()I"⟩
abbrev cX12_flown : ByteArray := prog_14_method_92_code
def yX12_flown : MethodName := ⟨RX12, "flown", "(III)I"⟩
abbrev cX12_law : ByteArray := prog_14_method_93_code
def yX12_law : MethodName := ⟨RX12, "law", "()I"⟩
abbrev cX12_step : ByteArray := prog_14_method_94_code
def yX12_step : MethodName := ⟨RX12, "step", "(II)V"⟩
abbrev cX12_put : ByteArray := prog_14_method_95_code
def yX12_put : MethodName := ⟨RX12, "put", "(II)V"⟩
abbrev cX12_e : ByteArray := prog_14_method_96_code
def yX12_e : MethodName := ⟨RX12, "e", "()V"⟩
abbrev cX12_wordHere : ByteArray := prog_14_method_97_code
def yX12_wordHere : MethodName := ⟨RX12, "wordHere", "()I"⟩
abbrev cX12_unit : ByteArray := prog_14_method_98_code
def yX12_unit : MethodName := ⟨RX12, "unit", "()Z"⟩
abbrev cX12_rankHere : ByteArray := prog_14_method_99_code
def yX12_rankHere : MethodName := ⟨RX12, "rankHere", "()I"⟩
abbrev cX12_isCompared : ByteArray := prog_14_method_100_code
def yX12_isCompared : MethodName := ⟨RX12, "isCompared", "()Z"⟩
abbrev cX12_behind : ByteArray := prog_14_method_101_code
def yX12_behind : MethodName := ⟨RX12, "behind", "()Z"⟩
abbrev cX12_bitsOf : ByteArray := prog_14_method_102_code
def yX12_bitsOf : MethodName := ⟨RX12, "bitsOf", "(I)I"⟩
abbrev cX12_term : ByteArray := prog_14_method_103_code
def yX12_term : MethodName := ⟨RX12, "term", "(II)I"⟩
abbrev cX12_two : ByteArray := prog_14_method_104_code
def yX12_two : MethodName := ⟨RX12, "two", "(III)I"⟩
abbrev cX12_compareAll : ByteArray := prog_14_method_105_code
def yX12_compareAll : MethodName := ⟨RX12, "compareAll", "(I)V"⟩
abbrev cX12_scoreOf : ByteArray := prog_14_method_106_code
def yX12_scoreOf : MethodName := ⟨RX12, "scoreOf", "(II)I"⟩
abbrev cX12_score : ByteArray := prog_14_method_107_code
def yX12_score : MethodName := ⟨RX12, "score", "(II)I"⟩
abbrev cX12_rank : ByteArray := prog_14_method_108_code
def yX12_rank : MethodName := ⟨RX12, "rank", "(II)I"⟩
abbrev cX12_measure : ByteArray := prog_14_method_109_code
def yX12_measure : MethodName := ⟨RX12, "measure", "()V"⟩
abbrev cX12_out : ByteArray := prog_14_method_110_code
def yX12_out : MethodName := ⟨RX12, "out", "(I)I"⟩
abbrev cX12_fetched : ByteArray := prog_14_method_111_code
def yX12_fetched : MethodName := ⟨RX12, "fetched", "()I"⟩
abbrev cX12_minutes : ByteArray := prog_14_method_112_code
def yX12_minutes : MethodName := ⟨RX12, "minutes", "(II)I"⟩
abbrev cX12_seek : ByteArray := prog_14_method_113_code
def yX12_seek : MethodName := ⟨RX12, "seek", "(II)I"⟩
abbrev cX12_lastHome : ByteArray := prog_14_method_114_code
def yX12_lastHome : MethodName := ⟨RX12, "lastHome", "(III)I"⟩
abbrev cX12_home : ByteArray := prog_14_method_115_code
def yX12_home : MethodName := ⟨RX12, "home", "(II)I"⟩
abbrev cX12_trailer : ByteArray := prog_14_method_116_code
def yX12_trailer : MethodName := ⟨RX12, "trailer", "(III)I"⟩
abbrev cX12_about : ByteArray := prog_14_method_117_code
def yX12_about : MethodName := ⟨RX12, "about", "(I)I"⟩
abbrev cX12_feed : ByteArray := prog_14_method_118_code
def yX12_feed : MethodName := ⟨RX12, "feed", "(IIIII)I"⟩
abbrev cX12_end : ByteArray := prog_14_method_119_code
def yX12_end : MethodName := ⟨RX12, "end", "(I)I"⟩
def RJ11 : String := "java/lang/Character"
def TJ11 : u_T := fun k => match k with
  | _ => ("", "", "", false)
def tyJ11 : Nat → FieldType := fun k => match k with
  | _ => .int
abbrev wsJ110 : List Cond := u_ws RJ11 TJ11 0
theorem nmJ11 : ∀ a, a < 0 → ∀ b, b < 0 → a ≠ b → (TJ11 a).2.1 ≠ (TJ11 b).2.1 := by decide +kernel
theorem tyJ11_ok : ∀ k, k < 0 → parseFieldDescriptor (TJ11 k).2.2.1 = some (tyJ11 k) := by decide +kernel
abbrev cJ11_isValidCodePoint_9a6ad : ByteArray := prog_15_method_11_code
def yJ11_isValidCodePoint_9a6ad : MethodName := ⟨RJ11, "isValidCodePoint", "(I)Z"⟩
abbrev cJ11_highSurrogate_5068e : ByteArray := prog_15_method_28_code
def yJ11_highSurrogate_5068e : MethodName := ⟨RJ11, "highSurrogate", "(I)C"⟩
abbrev cJ11_lowSurrogate_5068e : ByteArray := prog_15_method_29_code
def yJ11_lowSurrogate_5068e : MethodName := ⟨RJ11, "lowSurrogate", "(I)C"⟩
def RJ6 : String := "java/lang/Integer"
def TJ6 : u_T := fun k => match k with
  | _ => ("", "", "", false)
def tyJ6 : Nat → FieldType := fun k => match k with
  | _ => .int
abbrev wsJ60 : List Cond := u_ws RJ6 TJ6 0
theorem nmJ6 : ∀ a, a < 0 → ∀ b, b < 0 → a ≠ b → (TJ6 a).2.1 ≠ (TJ6 b).2.1 := by decide +kernel
theorem tyJ6_ok : ∀ k, k < 0 → parseFieldDescriptor (TJ6 k).2.2.1 = some (tyJ6 k) := by decide +kernel
abbrev cJ6_bitCount_0f7a4 : ByteArray := prog_16_method_49_code
def yJ6_bitCount_0f7a4 : MethodName := ⟨RJ6, "bitCount", "(I)I"⟩
def RJ13 : String := "java/lang/Long"
def TJ13 : u_T := fun k => match k with
  | _ => ("", "", "", false)
def tyJ13 : Nat → FieldType := fun k => match k with
  | _ => .int
abbrev wsJ130 : List Cond := u_ws RJ13 TJ13 0
theorem nmJ13 : ∀ a, a < 0 → ∀ b, b < 0 → a ≠ b → (TJ13 a).2.1 ≠ (TJ13 b).2.1 := by decide +kernel
theorem tyJ13_ok : ∀ k, k < 0 → parseFieldDescriptor (TJ13 k).2.2.1 = some (tyJ13 k) := by decide +kernel
abbrev cJ13_bitCount_95d88 : ByteArray := prog_17_method_50_code
def yJ13_bitCount_95d88 : MethodName := ⟨RJ13, "bitCount", "(J)I"⟩
def RJ9 : String := "java/lang/Math"
def TJ9 : u_T := fun k => match k with
  | _ => ("", "", "", false)
def tyJ9 : Nat → FieldType := fun k => match k with
  | _ => .int
abbrev wsJ90 : List Cond := u_ws RJ9 TJ9 0
theorem nmJ9 : ∀ a, a < 0 → ∀ b, b < 0 → a ≠ b → (TJ9 a).2.1 ≠ (TJ9 b).2.1 := by decide +kernel
theorem tyJ9_ok : ∀ k, k < 0 → parseFieldDescriptor (TJ9 k).2.2.1 = some (tyJ9 k) := by decide +kernel
abbrev cJ9_abs_0f7a4 : ByteArray := prog_18_method_59_code
def yJ9_abs_0f7a4 : MethodName := ⟨RJ9, "abs", "(I)I"⟩
abbrev cJ9_max_7cf53 : ByteArray := prog_18_method_65_code
def yJ9_max_7cf53 : MethodName := ⟨RJ9, "max", "(II)I"⟩
abbrev cJ9_min_7cf53 : ByteArray := prog_18_method_69_code
def yJ9_min_7cf53 : MethodName := ⟨RJ9, "min", "(II)I"⟩
def RJ0 : String := "java/lang/String"
def TJ0 : u_T := fun k => match k with
  | _ => ("", "", "", false)
def tyJ0 : Nat → FieldType := fun k => match k with
  | _ => .int
abbrev wsJ00 : List Cond := u_ws RJ0 TJ0 0
theorem nmJ0 : ∀ a, a < 0 → ∀ b, b < 0 → a ≠ b → (TJ0 a).2.1 ≠ (TJ0 b).2.1 := by decide +kernel
theorem tyJ0_ok : ∀ k, k < 0 → parseFieldDescriptor (TJ0 k).2.2.1 = some (tyJ0 k) := by decide +kernel
abbrev cJ0_length_8abf5 : ByteArray := prog_19_method_54_code
def yJ0_length_8abf5 : MethodName := ⟨RJ0, "length", "()I"⟩
abbrev cJ0_charAt_5068e : ByteArray := prog_19_method_56_code
def yJ0_charAt_5068e : MethodName := ⟨RJ0, "charAt", "(I)C"⟩
abbrev cJ0_indexOf_0f7a4 : ByteArray := prog_19_method_79_code
def yJ0_indexOf_0f7a4 : MethodName := ⟨RJ0, "indexOf", "(I)I"⟩
abbrev cJ0_indexOf_7cf53 : ByteArray := prog_19_method_80_code
def yJ0_indexOf_7cf53 : MethodName := ⟨RJ0, "indexOf", "(II)I"⟩
abbrev cJ0_coder_7d493 : ByteArray := prog_19_method_152_code
def yJ0_coder_7d493 : MethodName := ⟨RJ0, "coder", "()B"⟩
abbrev cJ0_isLatin1_aae02 : ByteArray := prog_19_method_154_code
def yJ0_isLatin1_aae02 : MethodName := ⟨RJ0, "isLatin1", "()Z"⟩
abbrev cJ0_checkIndex_df160 : ByteArray := prog_19_method_155_code
def yJ0_checkIndex_df160 : MethodName := ⟨RJ0, "checkIndex", "(II)V"⟩
abbrev cJ0_checkBoundsBeginEnd_23922 : ByteArray := prog_19_method_158_code
def yJ0_checkBoundsBeginEnd_23922 : MethodName := ⟨RJ0, "checkBoundsBeginEnd", "(III)V"⟩
def RJ1 : String := "java/lang/StringLatin1"
def TJ1 : u_T := fun k => match k with
  | _ => ("", "", "", false)
def tyJ1 : Nat → FieldType := fun k => match k with
  | _ => .int
abbrev wsJ10 : List Cond := u_ws RJ1 TJ1 0
theorem nmJ1 : ∀ a, a < 0 → ∀ b, b < 0 → a ≠ b → (TJ1 a).2.1 ≠ (TJ1 b).2.1 := by decide +kernel
theorem tyJ1_ok : ∀ k, k < 0 → parseFieldDescriptor (TJ1 k).2.2.1 = some (tyJ1 k) := by decide +kernel
abbrev cJ1_charAt_3b067 : ByteArray := prog_20_method_2_code
def yJ1_charAt_3b067 : MethodName := ⟨RJ1, "charAt", "([BI)C"⟩
abbrev cJ1_canEncode_9a6ad : ByteArray := prog_20_method_4_code
def yJ1_canEncode_9a6ad : MethodName := ⟨RJ1, "canEncode", "(I)Z"⟩
abbrev cJ1_indexOf_4cfef : ByteArray := prog_20_method_22_code
def yJ1_indexOf_4cfef : MethodName := ⟨RJ1, "indexOf", "([BIII)I"⟩
abbrev cJ1_indexOfChar_4cfef : ByteArray := prog_20_method_23_code
def yJ1_indexOfChar_4cfef : MethodName := ⟨RJ1, "indexOfChar", "([BIII)I"⟩
def RJ2 : String := "java/lang/StringUTF16"
def TJ2 : u_T := fun k => match k with
  | _ => ("", "", "", false)
def tyJ2 : Nat → FieldType := fun k => match k with
  | _ => .int
abbrev wsJ20 : List Cond := u_ws RJ2 TJ2 0
theorem nmJ2 : ∀ a, a < 0 → ∀ b, b < 0 → a ≠ b → (TJ2 a).2.1 ≠ (TJ2 b).2.1 := by decide +kernel
theorem tyJ2_ok : ∀ k, k < 0 → parseFieldDescriptor (TJ2 k).2.2.1 = some (tyJ2 k) := by decide +kernel
abbrev cJ2_getChar_3b067 : ByteArray := prog_21_method_5_code
def yJ2_getChar_3b067 : MethodName := ⟨RJ2, "getChar", "([BI)C"⟩
abbrev cJ2_length_9d52b : ByteArray := prog_21_method_6_code
def yJ2_length_9d52b : MethodName := ⟨RJ2, "length", "([B)I"⟩
abbrev cJ2_indexOf_4cfef : ByteArray := prog_21_method_40_code
def yJ2_indexOf_4cfef : MethodName := ⟨RJ2, "indexOf", "([BIII)I"⟩
abbrev cJ2_indexOfChar_4cfef : ByteArray := prog_21_method_47_code
def yJ2_indexOfChar_4cfef : MethodName := ⟨RJ2, "indexOfChar", "([BIII)I"⟩
abbrev cJ2_indexOfCharUnsafe_4cfef : ByteArray := prog_21_method_48_code
def yJ2_indexOfCharUnsafe_4cfef : MethodName := ⟨RJ2, "indexOfCharUnsafe", "([BIII)I"⟩
abbrev cJ2_indexOfSupplementary_4cfef : ByteArray := prog_21_method_49_code
def yJ2_indexOfSupplementary_4cfef : MethodName := ⟨RJ2, "indexOfSupplementary", "([BIII)I"⟩
abbrev cJ2_charAt_3b067 : ByteArray := prog_21_method_83_code
def yJ2_charAt_3b067 : MethodName := ⟨RJ2, "charAt", "([BI)C"⟩
abbrev cJ2_checkIndex_2214a : ByteArray := prog_21_method_91_code
def yJ2_checkIndex_2214a : MethodName := ⟨RJ2, "checkIndex", "(I[B)V"⟩
abbrev cJ2_checkBoundsBeginEnd_d044e : ByteArray := prog_21_method_93_code
def yJ2_checkBoundsBeginEnd_d044e : MethodName := ⟨RJ2, "checkBoundsBeginEnd", "(II[B)V"⟩
def RJ10 : String := "java/lang/System"
def TJ10 : u_T := fun k => match k with
  | _ => ("", "", "", false)
def tyJ10 : Nat → FieldType := fun k => match k with
  | _ => .int
abbrev wsJ100 : List Cond := u_ws RJ10 TJ10 0
theorem nmJ10 : ∀ a, a < 0 → ∀ b, b < 0 → a ≠ b → (TJ10 a).2.1 ≠ (TJ10 b).2.1 := by decide +kernel
theorem tyJ10_ok : ∀ k, k < 0 → parseFieldDescriptor (TJ10 k).2.2.1 = some (tyJ10 k) := by decide +kernel
def RJ7 : String := "java/util/Arrays"
def TJ7 : u_T := fun k => match k with
  | _ => ("", "", "", false)
def tyJ7 : Nat → FieldType := fun k => match k with
  | _ => .int
abbrev wsJ70 : List Cond := u_ws RJ7 TJ7 0
theorem nmJ7 : ∀ a, a < 0 → ∀ b, b < 0 → a ≠ b → (TJ7 a).2.1 ≠ (TJ7 b).2.1 := by decide +kernel
theorem tyJ7_ok : ∀ k, k < 0 → parseFieldDescriptor (TJ7 k).2.2.1 = some (tyJ7 k) := by decide +kernel
abbrev cJ7_fill_d0a16 : ByteArray := prog_23_method_101_code
def yJ7_fill_d0a16 : MethodName := ⟨RJ7, "fill", "([JJ)V"⟩
abbrev cJ7_fill_53178 : ByteArray := prog_23_method_103_code
def yJ7_fill_53178 : MethodName := ⟨RJ7, "fill", "([II)V"⟩
def RJ3 : String := "jdk/internal/util/Preconditions"
def TJ3 : u_T := fun k => match k with
  | _ => ("", "", "", false)
def tyJ3 : Nat → FieldType := fun k => match k with
  | _ => .int
abbrev wsJ30 : List Cond := u_ws RJ3 TJ3 0
theorem nmJ3 : ∀ a, a < 0 → ∀ b, b < 0 → a ≠ b → (TJ3 a).2.1 ≠ (TJ3 b).2.1 := by decide +kernel
theorem tyJ3_ok : ∀ k, k < 0 → parseFieldDescriptor (TJ3 k).2.2.1 = some (tyJ3 k) := by decide +kernel
abbrev cJ3_checkIndex_8e157 : ByteArray := prog_24_method_11_code
def yJ3_checkIndex_8e157 : MethodName := ⟨RJ3, "checkIndex", "(IILjava/util/function/BiFunction;)I"⟩
abbrev cJ3_checkFromToIndex_8c36e : ByteArray := prog_24_method_12_code
def yJ3_checkFromToIndex_8c36e : MethodName := ⟨RJ3, "checkFromToIndex", "(IIILjava/util/function/BiFunction;)I"⟩
def RL : String := "SoarHouseLaw"
abbrev cL_law : ByteArray := code
abbrev vwCl : List vw_C := [(RX0, TX0, 3), (RX1, TX1, 17), (RX2, TX2, 9), (RX3, TX3, 7), (RX4, TX4, 15), (RX5, TX5, 2), (RX6, TX6, 1), (RX7, TX7, 9), (RX8, TX8, 7), (RX9, TX9, 10), (RX10, TX10, 7), (RX11, TX11, 16), (RX12, TX12, 100)]
end
section
/-! ===== tables: printed by wip/tools/tables.py ===== -/
def RNL : List String := [RX0, RX1, RX2, RX3, RX4, RX5, RX6, RX7, RX8, RX9, RX10, RX11, RX12, RL, RJ0, RJ1, RJ2, RJ3, RJ6, RJ7, RJ9, RJ10, RJ11, RJ13]
def RN (c : Nat) : String := RNL.getD c ""
abbrev pMeth : Type := MethodName × ByteArray × Nat × Option FieldType × Nat × Nat × Nat
/-- a method: its name, bytes, locals, answer, class, the cells that it makes, its arguments (without the object) -/
def mtL : List pMeth := [(yX0_init, cX0_init, 1, none, 0, 1, 0),
  (yX0_take, cX0_take, 5, (some .boolean), 0, 0, 4),
  (yX0_canTurn, cX0_canTurn, 2, (some .boolean), 0, 0, 2),
  (yX0_addPoint, cX0_addPoint, 2, none, 0, 0, 1),
  (yX0_turns, cX0_turns, 1, (some .int), 0, 0, 0),
  (yX0_finish, cX0_finish, 1, (some .int), 0, 0, 0),
  (yX0_roundedIn, cX0_roundedIn, 4, (some .int), 0, 0, 2),
  (yX1_init, cX1_init, 4, none, 1, 6, 2),
  (yX1_forget, cX1_forget, 1, none, 1, 0, 0),
  (yX1_knows, cX1_knows, 6, (some .boolean), 1, 0, 5),
  (yX1_ask, cX1_ask, 6, none, 1, 0, 5),
  (yX1_search, cX1_search, 4, none, 1, 0, 2),
  (yX1_fieldsInReach, cX1_fieldsInReach, 9, (some .int), 1, 0, 5),
  (yX1_begin, cX1_begin, 3, none, 1, 0, 2),
  (yX1_index, cX1_index, 3, (some .int), 1, 0, 3),
  (yX1_heightsUpTo, cX1_heightsUpTo, 1, (some .long), 1, 0, 1),
  (yX1_cellsReached, cX1_cellsReached, 5, (some .long), 1, 0, 1),
  (yX1_finishing, cX1_finishing, 2, (some .long), 1, 0, 1),
  (yX1_isFlown, cX1_isFlown, 2, (some .boolean), 1, 0, 1),
  (yX1_readHour, cX1_readHour, 3, none, 1, 0, 1),
  (yX1_spreadAll, cX1_spreadAll, 6, none, 1, 0, 2),
  (yX1_spread, cX1_spread, 12, none, 1, 0, 4),
  (yX1_circled, cX1_circled, 10, (some .long), 1, 0, 2),
  (yX1_uncircled, cX1_uncircled, 8, (some .long), 1, 0, 2),
  (yX1_keepWhatLeadsThere, cX1_keepWhatLeadsThere, 7, none, 1, 0, 0),
  (yX1_leading, cX1_leading, 11, (some .long), 1, 0, 3),
  (yX1_walk, cX1_walk, 8, none, 1, 0, 0),
  (yX1_firstLeading, cX1_firstLeading, 7, (some .int), 1, 0, 4),
  (yX1_leads, cX1_leads, 5, (some .boolean), 1, 0, 2),
  (yX2_init, cX2_init, 1, none, 2, 4, 0),
  (yX2_equip, cX2_equip, 4, (some .boolean), 2, 0, 3),
  (yX2_isTaken, cX2_isTaken, 1, (some .boolean), 2, 0, 1),
  (yX2_ask, cX2_ask, 7, (some .int), 2, 0, 2),
  (yX2_firstFree, cX2_firstFree, 3, (some .int), 2, 0, 0),
  (yX2_tell, cX2_tell, 3, (some .int), 2, 0, 2),
  (yX3_init, cX3_init, 2, none, 3, 3, 1),
  (yX3_read, cX3_read, 3, (some .boolean), 3, 0, 1),
  (yX3_put, cX3_put, 2, none, 3, 0, 1),
  (yX3_readEither, cX3_readEither, 3, (some .boolean), 3, 0, 1),
  (yX3_readBoth, cX3_readBoth, 3, (some .boolean), 3, 0, 1),
  (yX3_readOne, cX3_readOne, 3, (some .boolean), 3, 0, 1),
  (yX3_readSum, cX3_readSum, 4, (some .boolean), 3, 0, 1),
  (yX3_readTerm, cX3_readTerm, 4, (some .boolean), 3, 0, 1),
  (yX3_readUnit, cX3_readUnit, 2, (some .boolean), 3, 0, 1),
  (yX3_asked, cX3_asked, 2, (some .int), 3, 0, 0),
  (yX3_valueOf, cX3_valueOf, 6, (some .int), 3, 0, 2),
  (yX3_worked, cX3_worked, 3, (some .int), 3, 0, 3),
  (yX4_init, cX4_init, 1, none, 4, 8, 0),
  (yX4_clear, cX4_clear, 1, none, 4, 0, 0),
  (yX4_hasGlider, cX4_hasGlider, 2, (some .boolean), 4, 0, 1),
  (yX4_hasName, cX4_hasName, 4, (some .boolean), 4, 0, 1),
  (yX4_handicapOf, cX4_handicapOf, 2, (some .int), 4, 0, 1),
  (yX4_liftOf, cX4_liftOf, 3, (some .int), 4, 0, 2),
  (yX4_windIn, cX4_windIn, 3, (some .int), 4, 0, 1),
  (yX4_topIn, cX4_topIn, 3, (some .int), 4, 0, 1),
  (yX4_wallHas, cX4_wallHas, 4, (some .boolean), 4, 0, 2),
  (yX4_wallCell, cX4_wallCell, 2, (some .int), 4, 0, 1),
  (yX4_wallAbove, cX4_wallAbove, 2, (some .int), 4, 0, 1),
  (yX4_ceilingOf, cX4_ceilingOf, 6, (some .int), 4, 0, 2),
  (yX4_gainOf, cX4_gainOf, 4, (some .int), 4, 0, 3),
  (yX4_lossOf, cX4_lossOf, 9, (some .int), 4, 0, 4),
  (yX4_moved, cX4_moved, 12, (some .int), 4, 0, 5),
  (yX4_circled, cX4_circled, 4, (some .int), 4, 0, 3),
  (yX5_init, cX5_init, 3, none, 5, 0, 2),
  (yX5_read, cX5_read, 6, (some .boolean), 5, 0, 2),
  (yX5_readRow, cX5_readRow, 4, (some .boolean), 5, 0, 0),
  (yX5_readLift, cX5_readLift, 4, (some .boolean), 5, 0, 0),
  (yX5_takeHour, cX5_takeHour, 3, (some .int), 5, 0, 1),
  (yX5_readWind, cX5_readWind, 4, (some .boolean), 5, 0, 0),
  (yX5_windLetter, cX5_windLetter, 1, (some .int), 5, 0, 0),
  (yX5_readTop, cX5_readTop, 3, (some .boolean), 5, 0, 0),
  (yX5_takeCell, cX5_takeCell, 3, (some .int), 5, 0, 0),
  (yX5_takeBehind, cX5_takeBehind, 4, (some .int), 5, 0, 3),
  (yX5_readWall, cX5_readWall, 6, (some .boolean), 5, 0, 0),
  (yX5_readField, cX5_readField, 2, (some .boolean), 5, 0, 0),
  (yX5_readRoad, cX5_readRoad, 5, (some .boolean), 5, 0, 0),
  (yX5_readGlider, cX5_readGlider, 5, (some .boolean), 5, 0, 0),
  (yX5_readSinks, cX5_readSinks, 4, (some .boolean), 5, 0, 1),
  (yX6_init, cX6_init, 1, none, 6, 1, 0),
  (yX6_weigh, cX6_weigh, 12, none, 6, 0, 5),
  (yX6_scoreOf, cX6_scoreOf, 3, (some .int), 6, 0, 2),
  (yX6_rankOf, cX6_rankOf, 7, (some .int), 6, 0, 3),
  (yX7_init, cX7_init, 2, none, 7, 0, 1),
  (yX7_open, cX7_open, 2, none, 7, 0, 1),
  (yX7_pass, cX7_pass, 3, none, 7, 0, 0),
  (yX7_runOf, cX7_runOf, 4, (some .int), 7, 0, 2),
  (yX7_numberRead, cX7_numberRead, 3, (some .int), 7, 0, 0),
  (yX7_knownWord, cX7_knownWord, 6, (some .int), 7, 0, 0),
  (yX7_packedWord, cX7_packedWord, 4, (some .long), 7, 0, 0),
  (yX7_wordLength, cX7_wordLength, 1, (some .int), 7, 0, 0),
  (yX7_letterOfWord, cX7_letterOfWord, 2, (some .int), 7, 0, 1),
  (yX7_isSign, cX7_isSign, 2, (some .boolean), 7, 0, 1),
  (yX7_isWord, cX7_isWord, 2, (some .boolean), 7, 0, 1),
  (yX7_takeSign, cX7_takeSign, 2, (some .boolean), 7, 0, 1),
  (yX7_takeWord, cX7_takeWord, 2, (some .boolean), 7, 0, 1),
  (yX7_takeNumber, cX7_takeNumber, 4, (some .int), 7, 0, 2),
  (yX7_refuse, cX7_refuse, 2, (some .boolean), 7, 0, 1),
  (yX7_refuseTaken, cX7_refuseTaken, 2, (some .boolean), 7, 0, 1),
  (yX8_init, cX8_init, 1, none, 8, 4, 0),
  (yX8_gather, cX8_gather, 6, none, 8, 0, 3),
  (yX8_roundedAt, cX8_roundedAt, 5, (some .int), 8, 0, 3),
  (yX8_roundLeast, cX8_roundLeast, 4, none, 8, 0, 1),
  (yX8_mostRounded, cX8_mostRounded, 4, (some .int), 8, 0, 1),
  (yX8_canRoundBehind, cX8_canRoundBehind, 6, (some .boolean), 8, 0, 3),
  (yX8_timeOn, cX8_timeOn, 2, (some .int), 8, 0, 1),
  (yX8_hasAll, cX8_hasAll, 2, (some .boolean), 8, 0, 1),
  (yX8_legOf, cX8_legOf, 3, (some .int), 8, 0, 2),
  (yX8_legsOf, cX8_legsOf, 2, (some .int), 8, 0, 1),
  (yX8_legsUpTo, cX8_legsUpTo, 5, (some .int), 8, 0, 2),
  (yX8_doneOn, cX8_doneOn, 6, (some .int), 8, 0, 1),
  (yX8_wallsForSure, cX8_wallsForSure, 5, (some .int), 8, 0, 1),
  (yX8_wallsMaybe, cX8_wallsMaybe, 5, (some .int), 8, 0, 1),
  (yX8_canEnterBehind, cX8_canEnterBehind, 7, (some .boolean), 8, 0, 3),
  (yX9_init, cX9_init, 1, none, 9, 7, 0),
  (yX9_clear, cX9_clear, 1, none, 9, 0, 0),
  (yX9_hasPilot, cX9_hasPilot, 2, (some .boolean), 9, 0, 1),
  (yX9_addPilot, cX9_addPilot, 2, (some .int), 9, 0, 1),
  (yX9_addFix, cX9_addFix, 5, (some .int), 9, 0, 4),
  (yX9_takeBack, cX9_takeBack, 2, (some .boolean), 9, 0, 1),
  (yX9_goOn, cX9_goOn, 2, (some .int), 9, 0, 1),
  (yX9_counts, cX9_counts, 3, (some .boolean), 9, 0, 2),
  (yX10_init, cX10_init, 1, none, 10, 5, 0),
  (yX10_clear, cX10_clear, 2, (some .int), 10, 0, 0),
  (yX10_lay, cX10_lay, 2, (some .int), 10, 0, 1),
  (yX10_minutesBetween, cX10_minutesBetween, 4, (some .int), 10, 0, 3),
  (yX10_measure, cX10_measure, 10, none, 10, 0, 2),
  (yX10_share, cX10_share, 5, (some .boolean), 10, 0, 3),
  (yX10_give, cX10_give, 6, none, 10, 0, 3),
  (yX11_init, cX11_init, 1, none, 11, 60, 0),
  (yX11_feed, cX11_feed, 6, (some .int), 11, 0, 5),
  (yX11_end, cX11_end, 2, (some .int), 11, 0, 1),
  (yX11_map, cX11_map, 3, (some .int), 11, 0, 0),
  (yX11_law, cX11_law, 2, (some .int), 11, 0, 0),
  (yX11_fault, cX11_fault, 2, (some .int), 11, 0, 1),
  (yX11_lift, cX11_lift, 3, (some .int), 11, 0, 2),
  (yX11_wind, cX11_wind, 2, (some .int), 11, 0, 1),
  (yX11_top, cX11_top, 2, (some .int), 11, 0, 1),
  (yX11_shut, cX11_shut, 4, (some .int), 11, 0, 3),
  (yX11_move, cX11_move, 6, (some .int), 11, 0, 5),
  (yX11_task, cX11_task, 5, (some .boolean), 11, 0, 4),
  (yX11_soonest, cX11_soonest, 6, (some .int), 11, 0, 5),
  (yX11_way, cX11_way, 7, (some .int), 11, 0, 6),
  (yX11_safe, cX11_safe, 5, (some .int), 11, 0, 4),
  (yX11_field, cX11_field, 4, (some .boolean), 11, 0, 3),
  (yX11_launch, cX11_launch, 3, (some .int), 11, 0, 2),
  (yX11_launched, cX11_launched, 3, (some .int), 11, 0, 2),
  (yX11_pilot, cX11_pilot, 2, (some .int), 11, 0, 1),
  (yX11_fix, cX11_fix, 5, (some .int), 11, 0, 4),
  (yX11_untell, cX11_untell, 2, (some .boolean), 11, 0, 1),
  (yX11_later, cX11_later, 2, (some .int), 11, 0, 1),
  (yX11_zone, cX11_zone, 2, (some .boolean), 11, 0, 1),
  (yX11_rounded, cX11_rounded, 4, (some .int), 11, 0, 3),
  (yX11_flown, cX11_flown, 4, (some .int), 11, 0, 3),
  (yX11_score, cX11_score, 3, (some .int), 11, 0, 2),
  (yX11_rank, cX11_rank, 3, (some .int), 11, 0, 2),
  (yX11_out, cX11_out, 2, (some .int), 11, 0, 1),
  (yX11_fetched, cX11_fetched, 1, (some .int), 11, 0, 0),
  (yX11_minutes, cX11_minutes, 3, (some .int), 11, 0, 2),
  (yX11_home, cX11_home, 3, (some .int), 11, 0, 2),
  (yX11_trailer, cX11_trailer, 4, (some .int), 11, 0, 3),
  (yX11_about, cX11_about, 2, (some .int), 11, 0, 1),
  (yX11_putFour, cX11_putFour, 3, none, 11, 0, 1),
  (yX11_keepFault, cX11_keepFault, 1, none, 11, 0, 0),
  (yX11_canBegin, cX11_canBegin, 5, (some .boolean), 11, 0, 4),
  (yX11_fly, cX11_fly, 6, (some .boolean), 11, 0, 5),
  (yX11_canJudge, cX11_canJudge, 2, (some .boolean), 11, 0, 1),
  (yX11_bringHome, cX11_bringHome, 3, (some .boolean), 11, 0, 2),
  (yX11_isCell, cX11_isCell, 1, (some .boolean), 11, 0, 1),
  (yX11_isHour, cX11_isHour, 1, (some .boolean), 11, 0, 1),
  (yX11_isHeight, cX11_isHeight, 1, (some .boolean), 11, 0, 1),
  (yX11_isPlace, cX11_isPlace, 3, (some .boolean), 11, 0, 3),
  (yX11_neighbour, cX11_neighbour, 4, (some .int), 11, 0, 2),
  (yX11_apart, cX11_apart, 2, (some .int), 11, 0, 2),
  (yX12_sign, cX12_sign, 2, (some .int), 12, 0, 1),
  (yX12_isLetter, cX12_isLetter, 1, (some .boolean), 12, 0, 1),
  (yX12_isDigit, cX12_isDigit, 1, (some .boolean), 12, 0, 1),
  (yX12_fails, cX12_fails, 3, none, 12, 0, 2),
  (yX12_isGood, cX12_isGood, 1, (some .boolean), 12, 0, 0),
  (yX12_isKept, cX12_isKept, 3, (some .boolean), 12, 0, 1),
  (yX12_isSign, cX12_isSign, 1, (some .boolean), 12, 0, 1),
  (yX12_next, cX12_next, 3, none, 12, 0, 0),
  (yX12_is, cX12_is, 2, (some .boolean), 12, 0, 1),
  (yX12_isWord, cX12_isWord, 3, (some .boolean), 12, 0, 1),
  (yX12_wrong, cX12_wrong, 1, none, 12, 0, 0),
  (yX12_must, cX12_must, 2, none, 12, 0, 1),
  (yX12_numeral, cX12_numeral, 4, (some .int), 12, 0, 2),
  (yX12_takeTape, cX12_takeTape, 2, none, 12, 0, 0),
  (yX12_beginMap, cX12_beginMap, 3, none, 12, 0, 0),
  (yX12_init, cX12_init, 1, none, 12, 57, 0),
  (yX12_map, cX12_map, 1, (some .int), 12, 0, 0),
  (yX12_readLine, cX12_readLine, 9, none, 12, 0, 0),
  (yX12_fresh, cX12_fresh, 3, (some .int), 12, 0, 2),
  (yX12_isGround, cX12_isGround, 2, (some .boolean), 12, 0, 1),
  (yX12_isGrounds, cX12_isGrounds, 4, (some .boolean), 12, 0, 1),
  (yX12_readRow, cX12_readRow, 3, none, 12, 0, 0),
  (yX12_readLift, cX12_readLift, 3, none, 12, 0, 0),
  (yX12_hourFor, cX12_hourFor, 2, (some .int), 12, 0, 1),
  (yX12_readWind, cX12_readWind, 5, none, 12, 0, 0),
  (yX12_readTop, cX12_readTop, 3, none, 12, 0, 0),
  (yX12_cell, cX12_cell, 2, (some .int), 12, 0, 0),
  (yX12_readWall, cX12_readWall, 2, none, 12, 0, 0),
  (yX12_readField, cX12_readField, 3, none, 12, 0, 0),
  (yX12_readRoad, cX12_readRoad, 3, none, 12, 0, 0),
  (yX12_readGlider, cX12_readGlider, 3, none, 12, 0, 0),
  (yX12_fault, cX12_fault, 2, (some .int), 12, 0, 1),
  (yX12_isCell, cX12_isCell, 1, (some .boolean), 12, 0, 1),
  (yX12_isHour, cX12_isHour, 1, (some .boolean), 12, 0, 1),
  (yX12_liftOf, cX12_liftOf, 3, (some .int), 12, 0, 2),
  (yX12_lift, cX12_lift, 3, (some .int), 12, 0, 2),
  (yX12_latest, cX12_latest, 4, (some .int), 12, 0, 2),
  (yX12_wayOf, cX12_wayOf, 3, (some .int), 12, 0, 1),
  (yX12_forceOf, cX12_forceOf, 3, (some .int), 12, 0, 1),
  (yX12_topOf, cX12_topOf, 3, (some .int), 12, 0, 1),
  (yX12_wind, cX12_wind, 2, (some .int), 12, 0, 1),
  (yX12_top, cX12_top, 2, (some .int), 12, 0, 1),
  (yX12_isShut, cX12_isShut, 5, (some .boolean), 12, 0, 3),
  (yX12_isMoment, cX12_isMoment, 1, (some .boolean), 12, 0, 1),
  (yX12_isHeight, cX12_isHeight, 1, (some .boolean), 12, 0, 1),
  (yX12_shut, cX12_shut, 4, (some .int), 12, 0, 3),
  (yX12_isGlider, cX12_isGlider, 2, (some .boolean), 12, 0, 1),
  (yX12_dx, cX12_dx, 1, (some .int), 12, 0, 1),
  (yX12_dy, cX12_dy, 1, (some .int), 12, 0, 1),
  (yX12_leads, cX12_leads, 16, (some .boolean), 12, 0, 5),
  (yX12_canBegin, cX12_canBegin, 5, (some .boolean), 12, 0, 4),
  (yX12_move, cX12_move, 6, (some .int), 12, 0, 5),
  (yX12_task, cX12_task, 5, (some .boolean), 12, 0, 4),
  (yX12_add, cX12_add, 2, none, 12, 0, 1),
  (yX12_roundedIn, cX12_roundedIn, 4, (some .int), 12, 0, 2),
  (yX12_spot, cX12_spot, 4, (some .int), 12, 0, 4),
  (yX12_isFlown, cX12_isFlown, 5, (some .boolean), 12, 0, 4),
  (yX12_endBy, cX12_endBy, 10, (some .int), 12, 0, 6),
  (yX12_reckon, cX12_reckon, 7, none, 12, 0, 2),
  (yX12_fly, cX12_fly, 12, (some .int), 12, 0, 5),
  (yX12_soonest, cX12_soonest, 7, (some .int), 12, 0, 5),
  (yX12_way, cX12_way, 7, (some .int), 12, 0, 6),
  (yX12_safe, cX12_safe, 8, (some .int), 12, 0, 4),
  (yX12_glide, cX12_glide, 6, none, 12, 0, 4),
  (yX12_isComeTo, cX12_isComeTo, 5, (some .boolean), 12, 0, 2),
  (yX12_isIn, cX12_isIn, 3, (some .boolean), 12, 0, 3),
  (yX12_field, cX12_field, 4, (some .boolean), 12, 0, 3),
  (yX12_launch, cX12_launch, 3, (some .int), 12, 0, 2),
  (yX12_queue, cX12_queue, 4, none, 12, 0, 0),
  (yX12_launched, cX12_launched, 3, (some .int), 12, 0, 2),
  (yX12_isPilot, cX12_isPilot, 2, (some .boolean), 12, 0, 1),
  (yX12_pilot, cX12_pilot, 2, (some .int), 12, 0, 1),
  (yX12_fix, cX12_fix, 5, (some .int), 12, 0, 4),
  (yX12_untell, cX12_untell, 2, (some .boolean), 12, 0, 1),
  (yX12_later, cX12_later, 2, (some .int), 12, 0, 1),
  (yX12_zone, cX12_zone, 2, (some .boolean), 12, 0, 1),
  (yX12_plain, cX12_plain, 1, (some .int), 12, 0, 1),
  (yX12_apart, cX12_apart, 4, (some .int), 12, 0, 2),
  (yX12_trace, cX12_trace, 4, none, 12, 0, 2),
  (yX12_isAtPoint, cX12_isAtPoint, 3, (some .boolean), 12, 0, 2),
  (yX12_leastRounded, cX12_leastRounded, 3, (some .int), 12, 0, 0),
  (yX12_toZone, cX12_toZone, 4, (some .int), 12, 0, 2),
  (yX12_mostRounded, cX12_mostRounded, 3, (some .int), 12, 0, 0),
  (yX12_rounded, cX12_rounded, 4, (some .int), 12, 0, 3),
  (yX12_lengthOf, cX12_lengthOf, 2, (some .int), 12, 0, 1),
  (yX12_legsOf, cX12_legsOf, 3, (some .int), 12, 0, 0),
  (yX12_doneOf, cX12_doneOf, 6, (some .int), 12, 0, 0),
  (yX12_timeOf, cX12_timeOf, 1, (some .int), 12, 0, 0),
  (yX12_sureWalls, cX12_sureWalls, 5, (some .int), 12, 0, 0),
  (yX12_mayEnter, cX12_mayEnter, 4, (some .boolean), 12, 0, 2),
  (yX12_maybeWalls, cX12_maybeWalls, 4, (some .int), 12, 0, 0),
  (yX12_flown, cX12_flown, 4, (some .int), 12, 0, 3),
  (yX12_law, cX12_law, 1, (some .int), 12, 0, 0),
  (yX12_step, cX12_step, 3, none, 12, 0, 2),
  (yX12_put, cX12_put, 3, none, 12, 0, 2),
  (yX12_e, cX12_e, 2, none, 12, 0, 0),
  (yX12_wordHere, cX12_wordHere, 1, (some .int), 12, 0, 0),
  (yX12_unit, cX12_unit, 5, (some .boolean), 12, 0, 0),
  (yX12_rankHere, cX12_rankHere, 1, (some .int), 12, 0, 0),
  (yX12_isCompared, cX12_isCompared, 2, (some .boolean), 12, 0, 0),
  (yX12_behind, cX12_behind, 2, (some .boolean), 12, 0, 0),
  (yX12_bitsOf, cX12_bitsOf, 3, (some .int), 12, 0, 1),
  (yX12_term, cX12_term, 3, (some .int), 12, 0, 2),
  (yX12_two, cX12_two, 3, (some .int), 12, 0, 3),
  (yX12_compareAll, cX12_compareAll, 6, none, 12, 0, 1),
  (yX12_scoreOf, cX12_scoreOf, 5, (some .int), 12, 0, 2),
  (yX12_score, cX12_score, 3, (some .int), 12, 0, 2),
  (yX12_rank, cX12_rank, 6, (some .int), 12, 0, 2),
  (yX12_measure, cX12_measure, 5, none, 12, 0, 0),
  (yX12_out, cX12_out, 2, (some .int), 12, 0, 1),
  (yX12_fetched, cX12_fetched, 2, (some .int), 12, 0, 0),
  (yX12_minutes, cX12_minutes, 3, (some .int), 12, 0, 2),
  (yX12_seek, cX12_seek, 8, (some .int), 12, 0, 2),
  (yX12_lastHome, cX12_lastHome, 7, (some .int), 12, 0, 3),
  (yX12_home, cX12_home, 3, (some .int), 12, 0, 2),
  (yX12_trailer, cX12_trailer, 4, (some .int), 12, 0, 3),
  (yX12_about, cX12_about, 2, (some .int), 12, 0, 1),
  (yX12_feed, cX12_feed, 8, (some .int), 12, 0, 5),
  (yX12_end, cX12_end, 2, (some .int), 12, 0, 1),
  (yJ11_isValidCodePoint_9a6ad, cJ11_isValidCodePoint_9a6ad, 2, (some .boolean), 22, 0, 1),
  (yJ11_highSurrogate_5068e, cJ11_highSurrogate_5068e, 1, (some .char), 22, 0, 1),
  (yJ11_lowSurrogate_5068e, cJ11_lowSurrogate_5068e, 1, (some .char), 22, 0, 1),
  (yJ6_bitCount_0f7a4, cJ6_bitCount_0f7a4, 1, (some .int), 18, 0, 1),
  (yJ13_bitCount_95d88, cJ13_bitCount_95d88, 2, (some .int), 23, 0, 1),
  (yJ9_abs_0f7a4, cJ9_abs_0f7a4, 1, (some .int), 20, 0, 1),
  (yJ9_max_7cf53, cJ9_max_7cf53, 2, (some .int), 20, 0, 2),
  (yJ9_min_7cf53, cJ9_min_7cf53, 2, (some .int), 20, 0, 2),
  (yJ0_length_8abf5, cJ0_length_8abf5, 1, (some .int), 14, 0, 0),
  (yJ0_charAt_5068e, cJ0_charAt_5068e, 2, (some .char), 14, 0, 1),
  (yJ0_indexOf_0f7a4, cJ0_indexOf_0f7a4, 2, (some .int), 14, 0, 1),
  (yJ0_indexOf_7cf53, cJ0_indexOf_7cf53, 3, (some .int), 14, 0, 2),
  (yJ0_coder_7d493, cJ0_coder_7d493, 1, (some .byte), 14, 0, 0),
  (yJ0_isLatin1_aae02, cJ0_isLatin1_aae02, 1, (some .boolean), 14, 0, 0),
  (yJ0_checkIndex_df160, cJ0_checkIndex_df160, 2, none, 14, 0, 2),
  (yJ0_checkBoundsBeginEnd_23922, cJ0_checkBoundsBeginEnd_23922, 3, none, 14, 0, 3),
  (yJ1_charAt_3b067, cJ1_charAt_3b067, 2, (some .char), 15, 0, 2),
  (yJ1_canEncode_9a6ad, cJ1_canEncode_9a6ad, 1, (some .boolean), 15, 0, 1),
  (yJ1_indexOf_4cfef, cJ1_indexOf_4cfef, 4, (some .int), 15, 0, 4),
  (yJ1_indexOfChar_4cfef, cJ1_indexOfChar_4cfef, 6, (some .int), 15, 0, 4),
  (yJ2_getChar_3b067, cJ2_getChar_3b067, 2, (some .char), 16, 0, 2),
  (yJ2_length_9d52b, cJ2_length_9d52b, 1, (some .int), 16, 0, 1),
  (yJ2_indexOf_4cfef, cJ2_indexOf_4cfef, 4, (some .int), 16, 0, 4),
  (yJ2_indexOfChar_4cfef, cJ2_indexOfChar_4cfef, 4, (some .int), 16, 0, 4),
  (yJ2_indexOfCharUnsafe_4cfef, cJ2_indexOfCharUnsafe_4cfef, 5, (some .int), 16, 0, 4),
  (yJ2_indexOfSupplementary_4cfef, cJ2_indexOfSupplementary_4cfef, 7, (some .int), 16, 0, 4),
  (yJ2_charAt_3b067, cJ2_charAt_3b067, 2, (some .char), 16, 0, 2),
  (yJ2_checkIndex_2214a, cJ2_checkIndex_2214a, 2, none, 16, 0, 2),
  (yJ2_checkBoundsBeginEnd_d044e, cJ2_checkBoundsBeginEnd_d044e, 3, none, 16, 0, 3),
  (yJ7_fill_d0a16, cJ7_fill_d0a16, 5, none, 19, 0, 2),
  (yJ7_fill_53178, cJ7_fill_53178, 4, none, 19, 0, 2),
  (yJ3_checkIndex_8e157, cJ3_checkIndex_8e157, 3, (some .int), 17, 0, 3),
  (yJ3_checkFromToIndex_8c36e, cJ3_checkFromToIndex_8c36e, 4, (some .int), 17, 0, 4),
  (⟨RL, "law", "([I)Z"⟩, code, 4, some .boolean, 13, 119, 1)]
def mt (j : Nat) : pMeth := mtL.getD j (yX0_init, cX0_init, 0, none, 0, 0, 0)
def mY (j : Nat) : MethodName := (mt j).1
def mB (j : Nat) : ByteArray := (mt j).2.1
def mX (j : Nat) : Nat := (mt j).2.2.1
def mR (j : Nat) : Option FieldType := (mt j).2.2.2.1
def mO (j : Nat) : Nat := (mt j).2.2.2.2.1
def mC (j : Nat) : Nat := (mt j).2.2.2.2.2.1
def mA (j : Nat) : Nat := (mt j).2.2.2.2.2.2
/-- a cell: an object of a class, or an array (0 int, 1 long, 2 byte, 3 boolean) of a length -/
abbrev pS : Type := Nat ⊕ (Nat × Nat)
def SHL : List pS := [.inl 11, .inr (0, 1900), .inl 7, .inl 4, .inr (0, 64), .inr (0, 48), .inr (0, 6), .inr (0, 6), .inr (0, 48), .inr (0, 60), .inr (1, 4), .inr (0, 20), .inl 4, .inr (0, 64), .inr (0, 48), .inr (0, 6), .inr (0, 6), .inr (0, 48), .inr (0, 60), .inr (1, 4), .inr (0, 20), .inl 5, .inl 3, .inr (0, 512), .inr (0, 512), .inr (0, 61), .inl 0, .inr (0, 4), .inl 1, .inr (1, 9472), .inr (0, 512), .inr (0, 24), .inr (0, 36), .inl 0, .inr (0, 4), .inl 2, .inr (0, 4), .inr (0, 30), .inr (0, 30), .inr (0, 30), .inl 9, .inr (0, 8), .inr (0, 200), .inr (0, 200), .inr (0, 200), .inr (0, 200), .inr (0, 200), .inr (0, 200), .inl 8, .inr (0, 36), .inr (0, 36), .inr (0, 36), .inr (0, 36), .inl 6, .inr (0, 64), .inl 10, .inr (0, 9), .inr (0, 64), .inr (0, 3), .inr (0, 9), .inr (0, 9), .inl 12, .inr (2, 1920), .inr (2, 1900), .inr (0, 2), .inr (0, 2), .inr (0, 2), .inr (0, 2), .inr (0, 2), .inr (0, 128), .inr (0, 96), .inr (0, 12), .inr (0, 12), .inr (0, 12), .inr (0, 24), .inr (0, 24), .inr (0, 24), .inr (0, 24), .inr (0, 40), .inr (0, 40), .inr (0, 40), .inr (0, 32), .inr (0, 8), .inr (1, 8), .inr (3, 8), .inr (3, 8), .inr (3, 128), .inr (0, 4), .inr (0, 388352), .inr (0, 36), .inr (3, 97088), .inr (0, 30), .inr (0, 30), .inr (0, 30), .inr (3, 30), .inr (0, 5), .inr (0, 8), .inr (0, 200), .inr (0, 200), .inr (0, 200), .inr (0, 200), .inr (0, 200), .inr (0, 200), .inr (0, 36), .inr (0, 36), .inr (0, 36), .inr (0, 36), .inr (0, 4), .inr (0, 600), .inr (0, 600), .inr (0, 2), .inr (0, 80), .inr (0, 80), .inr (0, 80), .inr (0, 4096), .inr (0, 9), .inr (0, 9), .inr (0, 9), .inr (0, 3)]
def SH (k : Nat) : pS := SHL.getD k (.inl 99)
def NCELL : Nat := 119
def szS (s : pS) : Nat := match s with
  | .inl c => (vwCl.getD c ("", TX0, 0)).2.2
  | .inr q => q.2
def slL : Nat → Nat
  | 0 => 0
  | n + 1 => slL n + szS (SH n)
def tyL : List (Nat → FieldType) := [tyX0, tyX1, tyX2, tyX3, tyX4, tyX5, tyX6, tyX7, tyX8, tyX9, tyX10, tyX11, tyX12]
def tyA (c k : Nat) : FieldType := (tyL.getD c tyX0) k
/-- fields: own class, index, class, slot, place of the word, 1 if by the nest -/
def fldL : List (Nat × Nat × Nat × Nat × Nat × Nat) := [(7, 9, 7, 0, 225, 0), (7, 21, 7, 1, 226, 0), (7, 25, 7, 2, 227, 0), (5, 30, 7, 3, 228, 1), (3, 49, 7, 3, 229, 1), (7, 50, 7, 3, 230, 0), (7, 34, 7, 4, 231, 0), (5, 34, 7, 5, 232, 1), (7, 43, 7, 5, 233, 0), (3, 79, 7, 5, 234, 1), (7, 40, 7, 6, 235, 0), (7, 28, 7, 7, 236, 0), (11, 321, 7, 7, 237, 1), (7, 31, 7, 8, 238, 0), (11, 324, 7, 8, 239, 1), (4, 9, 4, 0, 269, 0), (5, 94, 4, 0, 270, 1), (4, 43, 4, 1, 271, 0), (5, 80, 4, 1, 272, 1), (4, 15, 4, 2, 273, 0), (5, 101, 4, 2, 274, 1), (4, 47, 4, 3, 275, 0), (5, 98, 4, 3, 276, 1), (4, 18, 4, 4, 277, 0), (5, 104, 4, 4, 278, 1), (4, 21, 4, 5, 279, 0), (5, 114, 4, 5, 280, 1), (4, 24, 4, 6, 281, 0), (5, 130, 4, 6, 282, 1), (4, 50, 4, 7, 283, 0), (5, 120, 4, 7, 284, 1), (8, 95, 4, 7, 285, 1), (11, 291, 4, 7, 286, 1), (4, 53, 4, 8, 287, 0), (1, 92, 4, 8, 288, 1), (5, 133, 4, 8, 289, 1), (11, 294, 4, 8, 290, 1), (4, 27, 4, 9, 291, 0), (10, 47, 4, 9, 292, 1), (5, 140, 4, 9, 293, 1), (4, 57, 4, 10, 294, 0), (10, 42, 4, 10, 295, 1), (5, 137, 4, 10, 296, 1), (11, 304, 4, 10, 297, 1), (4, 30, 4, 11, 298, 0), (5, 160, 4, 11, 299, 1), (4, 34, 4, 12, 300, 0), (5, 157, 4, 12, 301, 1), (4, 60, 4, 13, 302, 0), (5, 143, 4, 13, 303, 1), (11, 307, 4, 13, 304, 1), (4, 63, 4, 14, 305, 0), (5, 70, 4, 14, 306, 1), (11, 128, 4, 14, 307, 1), (5, 9, 5, 0, 346, 0), (5, 15, 5, 1, 347, 0), (3, 21, 3, 0, 359, 0), (3, 11, 3, 1, 360, 0), (3, 55, 3, 2, 361, 0), (11, 318, 3, 2, 362, 1), (3, 15, 3, 3, 363, 0), (3, 31, 3, 4, 364, 0), (3, 35, 3, 5, 365, 0), (3, 18, 3, 6, 366, 0), (0, 9, 0, 0, 388, 0), (8, 52, 0, 0, 389, 1), (0, 23, 0, 1, 390, 0), (8, 49, 0, 1, 391, 1), (11, 317, 0, 1, 392, 1), (8, 59, 0, 2, 393, 1), (11, 218, 0, 2, 394, 1), (1, 11, 1, 0, 417, 0), (1, 15, 1, 1, 418, 0), (1, 19, 1, 2, 419, 0), (1, 22, 1, 3, 420, 0), (11, 182, 1, 3, 421, 1), (1, 28, 1, 4, 422, 0), (1, 74, 1, 5, 423, 0), (11, 179, 1, 5, 424, 1), (1, 71, 1, 6, 425, 0), (11, 176, 1, 6, 426, 1), (1, 32, 1, 7, 427, 0), (1, 36, 1, 8, 428, 0), (1, 146, 1, 9, 429, 0), (1, 139, 1, 10, 430, 0), (1, 43, 1, 11, 431, 0), (1, 47, 1, 12, 432, 0), (1, 51, 1, 13, 433, 0), (1, 54, 1, 14, 434, 0), (1, 57, 1, 15, 435, 0), (1, 60, 1, 16, 436, 0), (2, 9, 2, 0, 478, 0), (2, 15, 2, 1, 479, 0), (2, 18, 2, 2, 480, 0), (2, 38, 2, 3, 481, 0), (2, 21, 2, 4, 482, 0), (2, 25, 2, 5, 483, 0), (2, 28, 2, 6, 484, 0), (2, 31, 2, 7, 485, 0), (2, 47, 2, 8, 486, 0), (11, 316, 2, 8, 487, 1), (9, 9, 9, 0, 513, 0), (6, 54, 9, 0, 514, 1), (9, 33, 9, 1, 515, 0), (6, 15, 9, 1, 516, 1), (11, 266, 9, 1, 517, 1), (9, 15, 9, 2, 518, 0), (8, 36, 9, 2, 519, 1), (9, 18, 9, 3, 520, 0), (8, 43, 9, 3, 521, 1), (9, 21, 9, 4, 522, 0), (8, 47, 9, 4, 523, 1), (9, 24, 9, 5, 524, 0), (8, 48, 9, 5, 525, 1), (9, 27, 9, 6, 526, 0), (9, 30, 9, 7, 527, 0), (9, 37, 9, 8, 528, 0), (8, 30, 9, 8, 529, 1), (11, 310, 9, 8, 530, 1), (9, 40, 9, 9, 531, 0), (11, 313, 9, 9, 532, 1), (8, 9, 8, 0, 560, 0), (8, 15, 8, 1, 561, 0), (8, 18, 8, 2, 562, 0), (8, 21, 8, 3, 563, 0), (8, 44, 8, 4, 564, 0), (11, 255, 8, 4, 565, 1), (6, 51, 8, 5, 566, 1), (8, 62, 8, 5, 567, 0), (11, 236, 8, 5, 568, 1), (8, 65, 8, 6, 569, 0), (6, 9, 6, 0, 591, 0), (10, 9, 10, 0, 601, 0), (10, 27, 10, 1, 602, 0), (11, 287, 10, 1, 603, 1), (10, 15, 10, 2, 604, 0), (10, 18, 10, 3, 605, 0), (10, 21, 10, 4, 606, 0), (10, 24, 10, 5, 607, 0), (11, 288, 10, 5, 608, 1), (10, 50, 10, 6, 609, 0), (11, 284, 10, 6, 610, 1), (11, 9, 11, 0, 626, 0), (11, 105, 11, 1, 627, 0), (11, 18, 11, 2, 628, 0), (11, 25, 11, 3, 629, 0), (11, 29, 11, 4, 630, 0), (11, 37, 11, 5, 631, 0), (11, 46, 11, 6, 632, 0), (11, 134, 11, 7, 633, 0), (11, 50, 11, 8, 634, 0), (11, 57, 11, 9, 635, 0), (11, 66, 11, 10, 636, 0), (11, 73, 11, 11, 637, 0), (11, 80, 11, 12, 638, 0), (11, 87, 11, 13, 639, 0), (11, 94, 11, 14, 640, 0), (11, 101, 11, 15, 641, 0), (12, 117, 12, 0, 1507, 0), (12, 7, 12, 1, 1508, 0), (12, 114, 12, 2, 1509, 0), (12, 1, 12, 3, 1510, 0), (12, 11, 12, 4, 1511, 0), (12, 14, 12, 5, 1512, 0), (12, 68, 12, 6, 1513, 0), (12, 65, 12, 7, 1514, 0), (12, 75, 12, 8, 1515, 0), (12, 93, 12, 9, 1516, 0), (12, 82, 12, 10, 1517, 0), (12, 120, 12, 11, 1518, 0), (12, 127, 12, 12, 1519, 0), (12, 130, 12, 13, 1520, 0), (12, 133, 12, 14, 1521, 0), (12, 136, 12, 15, 1522, 0), (12, 139, 12, 16, 1523, 0), (12, 152, 12, 17, 1524, 0), (12, 155, 12, 18, 1525, 0), (12, 158, 12, 19, 1526, 0), (12, 161, 12, 20, 1527, 0), (12, 169, 12, 21, 1528, 0), (12, 172, 12, 22, 1529, 0), (12, 175, 12, 23, 1530, 0), (12, 178, 12, 24, 1531, 0), (12, 181, 12, 25, 1532, 0), (12, 184, 12, 26, 1533, 0), (12, 187, 12, 27, 1534, 0), (12, 190, 12, 28, 1535, 0), (12, 193, 12, 29, 1536, 0), (12, 196, 12, 30, 1537, 0), (12, 146, 12, 31, 1538, 0), (12, 149, 12, 32, 1539, 0), (12, 142, 12, 33, 1540, 0), (12, 322, 12, 34, 1541, 0), (12, 124, 12, 35, 1542, 0), (12, 425, 12, 36, 1543, 0), (12, 428, 12, 37, 1544, 0), (12, 431, 12, 38, 1545, 0), (12, 200, 12, 39, 1546, 0), (12, 451, 12, 40, 1547, 0), (12, 458, 12, 41, 1548, 0), (12, 204, 12, 42, 1549, 0), (12, 207, 12, 43, 1550, 0), (12, 210, 12, 44, 1551, 0), (12, 213, 12, 45, 1552, 0), (12, 476, 12, 46, 1553, 0), (12, 217, 12, 47, 1554, 0), (12, 220, 12, 48, 1555, 0), (12, 223, 12, 49, 1556, 0), (12, 226, 12, 50, 1557, 0), (12, 229, 12, 51, 1558, 0), (12, 497, 12, 52, 1559, 0), (12, 232, 12, 53, 1560, 0), (12, 235, 12, 54, 1561, 0), (12, 238, 12, 55, 1562, 0), (12, 241, 12, 56, 1563, 0), (12, 244, 12, 57, 1564, 0), (12, 247, 12, 58, 1565, 0), (12, 250, 12, 59, 1566, 0), (12, 253, 12, 60, 1567, 0), (12, 256, 12, 61, 1568, 0), (12, 259, 12, 62, 1569, 0), (12, 262, 12, 63, 1570, 0), (12, 328, 12, 64, 1571, 0), (12, 331, 12, 65, 1572, 0), (12, 506, 12, 66, 1573, 0), (12, 510, 12, 67, 1574, 0), (12, 265, 12, 68, 1575, 0), (12, 268, 12, 69, 1576, 0), (12, 271, 12, 70, 1577, 0), (12, 274, 12, 71, 1578, 0), (12, 516, 12, 72, 1579, 0), (12, 277, 12, 73, 1580, 0), (12, 280, 12, 74, 1581, 0), (12, 283, 12, 75, 1582, 0), (12, 286, 12, 76, 1583, 0), (12, 289, 12, 77, 1584, 0), (12, 292, 12, 78, 1585, 0), (12, 295, 12, 79, 1586, 0), (12, 558, 12, 80, 1587, 0), (12, 561, 12, 81, 1588, 0), (12, 564, 12, 82, 1589, 0), (12, 576, 12, 83, 1590, 0), (12, 573, 12, 84, 1591, 0), (12, 570, 12, 85, 1592, 0), (12, 600, 12, 86, 1593, 0), (12, 603, 12, 87, 1594, 0), (12, 606, 12, 88, 1595, 0), (12, 609, 12, 89, 1596, 0), (12, 612, 12, 90, 1597, 0), (12, 615, 12, 91, 1598, 0), (12, 618, 12, 92, 1599, 0), (12, 621, 12, 93, 1600, 0), (12, 298, 12, 94, 1601, 0), (12, 301, 12, 95, 1602, 0), (12, 304, 12, 96, 1603, 0), (12, 307, 12, 97, 1604, 0), (12, 310, 12, 98, 1605, 0), (12, 334, 12, 99, 1606, 0)]
/-- calls: own class, index, kind (0 virtual, 1 static, 2 special), method, place of the word, 1 if by the nest -/
def calL : List (Nat × Nat × Nat × Nat × Nat × Nat) := [(13, 9, 2, 128, 213, 0), (11, 15, 2, 82, 221, 1), (11, 24, 2, 47, 262, 1), (4, 37, 1, 322, 266, 0), (11, 34, 2, 63, 342, 1), (11, 43, 2, 35, 355, 1), (11, 56, 2, 0, 384, 1), (11, 63, 2, 7, 404, 1), (1, 27, 2, 0, 409, 1), (1, 39, 1, 171, 410, 1), (11, 72, 2, 29, 474, 1), (11, 79, 2, 113, 509, 1), (11, 86, 2, 98, 556, 1), (11, 93, 2, 78, 587, 1), (11, 100, 2, 121, 597, 1), (13, 13, 0, 129, 675, 0), (11, 108, 0, 161, 679, 0), (13, 18, 0, 130, 683, 0), (13, 23, 0, 131, 687, 0), (11, 112, 0, 64, 691, 1), (5, 19, 0, 48, 695, 1), (5, 24, 0, 83, 699, 1), (7, 15, 1, 299, 703, 0), (7, 37, 0, 84, 706, 0), (7, 46, 0, 85, 710, 0), (7, 53, 0, 87, 714, 0), (7, 70, 0, 300, 719, 0), (14, 335, 0, 304, 723, 0), (7, 72, 0, 301, 729, 0), (14, 492, 0, 305, 733, 0), (14, 495, 1, 308, 737, 0), (15, 9, 1, 306, 740, 0), (14, 1059, 1, 323, 745, 0), (14, 498, 1, 318, 748, 0), (16, 67, 1, 319, 751, 0), (16, 48, 1, 313, 754, 0), (16, 414, 1, 306, 757, 0), (16, 71, 1, 312, 758, 0), (7, 57, 0, 86, 767, 0), (7, 62, 0, 302, 772, 0), (14, 633, 0, 303, 776, 0), (14, 505, 0, 300, 780, 0), (14, 637, 1, 310, 781, 0), (15, 88, 1, 309, 784, 0), (15, 92, 1, 298, 787, 0), (15, 38, 1, 299, 790, 0), (15, 95, 1, 311, 791, 0), (14, 640, 1, 314, 794, 0), (16, 224, 1, 298, 797, 0), (16, 183, 1, 299, 798, 0), (16, 228, 1, 315, 800, 0), (16, 96, 1, 320, 803, 0), (16, 241, 1, 307, 806, 0), (14, 1062, 1, 324, 809, 0), (16, 244, 1, 316, 812, 0), (16, 232, 1, 317, 815, 0), (16, 164, 1, 292, 818, 0), (16, 157, 1, 293, 821, 0), (16, 161, 1, 294, 825, 0), (5, 37, 0, 65, 829, 0), (5, 73, 0, 84, 833, 1), (5, 76, 0, 95, 834, 1), (7, 85, 0, 96, 838, 0), (5, 83, 0, 97, 842, 1), (5, 62, 0, 96, 846, 1), (5, 86, 0, 89, 847, 1), (5, 90, 0, 90, 851, 1), (7, 78, 0, 89, 855, 0), (5, 41, 0, 66, 856, 0), (5, 44, 0, 68, 860, 0), (5, 107, 0, 67, 864, 0), (5, 111, 0, 69, 868, 0), (5, 47, 0, 70, 872, 0), (5, 50, 0, 73, 876, 0), (5, 123, 0, 71, 880, 0), (5, 126, 0, 72, 884, 0), (5, 117, 0, 94, 888, 1), (7, 89, 0, 92, 892, 0), (5, 53, 0, 74, 896, 0), (5, 56, 0, 75, 900, 0), (5, 59, 0, 76, 904, 0), (5, 146, 0, 88, 908, 1), (5, 150, 0, 50, 913, 1), (5, 154, 0, 77, 917, 0), (5, 66, 0, 93, 921, 1), (7, 81, 0, 91, 925, 0), (11, 116, 0, 162, 929, 0), (11, 119, 0, 114, 933, 1), (11, 122, 0, 122, 937, 1), (11, 125, 0, 8, 941, 1), (13, 28, 0, 132, 946, 0), (11, 131, 0, 36, 950, 1), (3, 25, 0, 83, 954, 1), (3, 38, 0, 94, 955, 1), (3, 42, 0, 38, 956, 0), (3, 58, 0, 39, 960, 0), (3, 70, 0, 40, 964, 0), (3, 61, 0, 92, 968, 1), (3, 52, 0, 96, 969, 1), (3, 64, 0, 84, 970, 1), (3, 67, 0, 37, 971, 0), (3, 73, 0, 41, 975, 0), (3, 82, 0, 42, 979, 0), (3, 85, 0, 43, 983, 0), (3, 76, 0, 91, 987, 1), (3, 45, 0, 93, 988, 1), (3, 88, 0, 44, 989, 0), (13, 32, 0, 133, 993, 0), (13, 36, 0, 134, 997, 0), (11, 137, 1, 167, 1001, 0), (11, 140, 1, 168, 1004, 0), (11, 143, 0, 52, 1007, 1), (13, 41, 0, 135, 1011, 0), (11, 147, 0, 53, 1015, 1), (13, 45, 0, 136, 1019, 0), (11, 151, 0, 54, 1023, 1), (13, 49, 0, 137, 1027, 0), (11, 154, 1, 170, 1031, 0), (11, 325, 1, 169, 1034, 0), (11, 158, 0, 58, 1037, 1), (4, 70, 1, 299, 1041, 0), (13, 54, 0, 138, 1042, 0), (11, 161, 0, 49, 1046, 1), (11, 164, 0, 61, 1050, 1), (4, 92, 0, 59, 1054, 0), (4, 76, 0, 52, 1058, 0), (4, 96, 0, 54, 1059, 0), (4, 99, 1, 62, 1060, 0), (4, 89, 1, 298, 1063, 0), (4, 102, 1, 171, 1064, 1), (4, 105, 0, 60, 1065, 0), (4, 79, 0, 53, 1069, 0), (4, 109, 0, 58, 1072, 0), (13, 58, 0, 139, 1073, 0), (11, 168, 0, 1, 1077, 1), (0, 15, 1, 167, 1081, 1), (0, 19, 1, 2, 1082, 0), (0, 27, 0, 3, 1085, 0), (13, 63, 0, 140, 1089, 0), (11, 172, 0, 164, 1093, 0), (11, 185, 0, 163, 1097, 0), (11, 328, 0, 9, 1101, 1), (1, 63, 0, 10, 1105, 0), (11, 331, 0, 11, 1109, 1), (1, 67, 0, 13, 1113, 0), (1, 104, 1, 321, 1117, 0), (1, 110, 0, 6, 1120, 1), (1, 113, 1, 14, 1124, 0), (1, 77, 0, 20, 1127, 0), (1, 153, 0, 19, 1131, 0), (1, 134, 1, 299, 1135, 0), (1, 142, 0, 54, 1136, 1), (1, 149, 0, 60, 1137, 1), (1, 119, 0, 4, 1138, 1), (0, 31, 1, 298, 1142, 0), (1, 157, 0, 58, 1143, 1), (1, 126, 1, 15, 1144, 0), (1, 160, 0, 21, 1148, 0), (1, 164, 0, 59, 1152, 1), (1, 167, 0, 22, 1153, 0), (1, 171, 1, 298, 1158, 0), (1, 81, 0, 18, 1159, 0), (1, 131, 0, 17, 1163, 0), (1, 123, 0, 5, 1167, 1), (0, 37, 0, 4, 1171, 0), (1, 85, 0, 24, 1172, 0), (1, 174, 0, 25, 1176, 0), (1, 178, 0, 23, 1180, 0), (11, 334, 0, 26, 1184, 1), (1, 181, 0, 27, 1188, 0), (1, 184, 0, 61, 1192, 1), (1, 188, 0, 28, 1193, 0), (13, 67, 0, 141, 1197, 0), (13, 72, 0, 142, 1201, 0), (11, 188, 0, 12, 1205, 1), (1, 88, 0, 16, 1209, 0), (1, 98, 1, 296, 1213, 0), (13, 77, 0, 143, 1219, 0), (11, 192, 0, 30, 1223, 1), (2, 34, 1, 31, 1227, 0), (2, 41, 1, 322, 1230, 0), (13, 82, 0, 144, 1231, 0), (11, 195, 0, 32, 1235, 1), (2, 50, 0, 33, 1239, 0), (2, 54, 1, 298, 1243, 0), (13, 87, 0, 145, 1244, 0), (11, 199, 0, 34, 1248, 1), (13, 91, 0, 146, 1252, 0), (11, 202, 0, 116, 1256, 1), (13, 95, 0, 147, 1260, 0), (11, 205, 0, 115, 1264, 1), (11, 208, 0, 117, 1268, 1), (13, 99, 0, 148, 1272, 0), (11, 212, 0, 118, 1276, 1), (13, 104, 0, 149, 1280, 0), (11, 215, 0, 119, 1284, 1), (13, 108, 0, 150, 1289, 0), (13, 112, 0, 151, 1293, 0), (11, 221, 0, 165, 1297, 0), (11, 224, 0, 99, 1301, 1), (8, 24, 1, 322, 1305, 0), (8, 39, 0, 120, 1306, 1), (11, 228, 0, 102, 1310, 1), (8, 68, 0, 100, 1314, 0), (8, 55, 1, 172, 1318, 1), (11, 347, 1, 297, 1321, 0), (11, 352, 1, 298, 1324, 0), (8, 72, 0, 103, 1325, 0), (8, 76, 1, 298, 1329, 0), (11, 232, 0, 101, 1330, 1), (13, 117, 0, 152, 1334, 0), (11, 239, 0, 109, 1338, 1), (8, 85, 0, 108, 1342, 0), (8, 89, 0, 106, 1346, 0), (8, 92, 1, 299, 1350, 0), (11, 242, 0, 107, 1351, 1), (11, 245, 0, 104, 1355, 1), (8, 81, 0, 105, 1359, 0), (11, 248, 0, 110, 1363, 1), (8, 100, 0, 56, 1367, 1), (8, 104, 0, 57, 1371, 1), (8, 107, 0, 55, 1375, 1), (11, 252, 0, 111, 1379, 1), (8, 110, 0, 112, 1383, 0), (8, 114, 0, 110, 1387, 0), (13, 121, 0, 153, 1388, 0), (11, 258, 0, 79, 1392, 1), (6, 21, 0, 99, 1396, 1), (6, 27, 0, 101, 1397, 1), (6, 31, 0, 104, 1398, 1), (6, 35, 0, 109, 1399, 1), (6, 38, 0, 107, 1400, 1), (6, 41, 0, 110, 1401, 1), (6, 45, 1, 295, 1402, 0), (6, 57, 0, 51, 1408, 1), (4, 66, 0, 49, 1412, 0), (6, 62, 1, 298, 1413, 0), (6, 68, 0, 105, 1414, 1), (11, 262, 0, 80, 1415, 1), (6, 72, 0, 45, 1419, 1), (3, 92, 1, 46, 1423, 0), (13, 125, 0, 154, 1426, 0), (11, 269, 0, 81, 1430, 1), (6, 78, 0, 80, 1434, 0), (13, 129, 0, 155, 1435, 0), (11, 273, 0, 123, 1439, 1), (13, 133, 0, 156, 1443, 0), (13, 137, 0, 157, 1447, 0), (11, 276, 0, 124, 1451, 1), (10, 31, 0, 125, 1455, 0), (10, 36, 1, 322, 1460, 0), (13, 141, 0, 158, 1461, 0), (11, 280, 0, 166, 1465, 0), (11, 337, 0, 126, 1469, 1), (10, 53, 0, 127, 1473, 0), (10, 63, 1, 298, 1480, 0), (13, 145, 0, 159, 1481, 0), (13, 149, 0, 160, 1485, 0), (11, 298, 1, 296, 1489, 0), (13, 12, 2, 188, 1492, 0), (12, 313, 0, 187, 1498, 0), (12, 316, 0, 281, 1502, 0), (13, 27, 0, 189, 1809, 0), (12, 319, 0, 186, 1813, 0), (12, 107, 0, 180, 1817, 0), (12, 71, 0, 173, 1821, 0), (12, 78, 1, 174, 1825, 0), (12, 86, 1, 178, 1828, 0), (12, 90, 1, 175, 1855, 0), (12, 96, 1, 179, 1858, 0), (12, 103, 0, 177, 1861, 0), (12, 325, 0, 190, 1865, 0), (12, 337, 0, 182, 1869, 0), (12, 111, 0, 183, 1873, 0), (12, 99, 0, 176, 1877, 0), (12, 340, 0, 200, 1881, 0), (12, 389, 0, 199, 1885, 0), (12, 371, 0, 185, 1889, 0), (12, 367, 0, 184, 1893, 0), (12, 343, 0, 202, 1897, 0), (12, 346, 0, 203, 1901, 0), (12, 349, 0, 194, 1905, 0), (12, 378, 0, 191, 1909, 0), (12, 382, 0, 193, 1913, 0), (12, 375, 0, 192, 1917, 0), (12, 352, 0, 195, 1921, 0), (12, 355, 0, 197, 1925, 0), (12, 385, 0, 196, 1929, 0), (12, 358, 0, 198, 1933, 0), (12, 361, 0, 201, 1937, 0), (12, 364, 0, 181, 1941, 0), (13, 35, 0, 204, 1945, 0), (13, 40, 0, 208, 1949, 0), (12, 393, 1, 205, 1953, 0), (12, 396, 1, 206, 1956, 0), (12, 399, 0, 207, 1959, 0), (13, 44, 0, 213, 1963, 0), (12, 406, 0, 211, 1967, 0), (12, 402, 0, 209, 1971, 0), (12, 409, 0, 210, 1975, 0), (13, 48, 0, 214, 1979, 0), (12, 412, 0, 212, 1983, 0), (13, 53, 0, 218, 1987, 0), (12, 415, 1, 216, 1991, 0), (12, 418, 1, 217, 1994, 0), (12, 421, 0, 215, 1997, 0), (13, 57, 0, 224, 2001, 0), (12, 443, 0, 223, 2005, 0), (12, 440, 0, 219, 2009, 0), (12, 447, 0, 222, 2013, 0), (12, 434, 1, 220, 2017, 0), (12, 437, 1, 221, 2020, 0), (13, 62, 0, 225, 2023, 0), (12, 454, 0, 226, 2027, 0), (13, 66, 0, 233, 2031, 0), (12, 482, 0, 232, 2035, 0), (12, 479, 0, 231, 2039, 0), (12, 468, 1, 228, 2043, 0), (12, 472, 0, 230, 2046, 0), (12, 462, 0, 229, 2050, 0), (12, 465, 0, 227, 2054, 0), (13, 71, 0, 234, 2058, 0), (13, 76, 0, 235, 2062, 0), (12, 486, 0, 236, 2066, 0), (12, 490, 0, 237, 2070, 0), (13, 81, 0, 239, 2074, 0), (12, 494, 1, 238, 2078, 0), (13, 86, 0, 240, 2081, 0), (12, 500, 0, 241, 2085, 0), (13, 90, 0, 242, 2089, 0), (13, 94, 0, 244, 2093, 0), (13, 98, 0, 245, 2097, 0), (12, 503, 0, 243, 2101, 0), (13, 103, 0, 246, 2105, 0), (13, 107, 0, 247, 2109, 0), (13, 111, 0, 248, 2113, 0), (13, 116, 0, 256, 2117, 0), (12, 528, 0, 251, 2121, 0), (12, 531, 0, 255, 2125, 0), (12, 522, 0, 252, 2129, 0), (12, 519, 1, 250, 2133, 0), (12, 513, 1, 249, 2136, 0), (12, 525, 0, 254, 2139, 0), (12, 534, 0, 253, 2143, 0), (13, 120, 0, 264, 2147, 0), (12, 546, 0, 259, 2151, 0), (12, 537, 0, 257, 2155, 0), (12, 549, 0, 258, 2159, 0), (12, 552, 0, 260, 2163, 0), (12, 543, 0, 261, 2167, 0), (12, 555, 0, 263, 2171, 0), (12, 540, 0, 262, 2175, 0), (13, 31, 0, 265, 2179, 0), (12, 567, 0, 268, 2183, 0), (12, 579, 0, 267, 2187, 0), (12, 582, 0, 270, 2191, 0), (12, 588, 0, 269, 2195, 0), (12, 591, 0, 266, 2199, 0), (12, 585, 0, 273, 2203, 0), (12, 594, 0, 271, 2207, 0), (12, 597, 0, 272, 2211, 0), (13, 124, 0, 279, 2215, 0), (12, 634, 0, 277, 2219, 0), (12, 637, 0, 278, 2223, 0), (12, 624, 1, 274, 2227, 0), (12, 627, 0, 275, 2230, 0), (12, 630, 1, 276, 2234, 0), (13, 128, 0, 280, 2237, 0), (12, 640, 0, 279, 2241, 0), (13, 132, 0, 282, 2242, 0), (13, 136, 0, 283, 2246, 0), (13, 140, 0, 284, 2250, 0), (13, 144, 0, 287, 2254, 0), (12, 646, 0, 285, 2258, 0), (12, 643, 0, 286, 2262, 0), (13, 148, 0, 288, 2266, 0), (13, 152, 0, 289, 2270, 0), (13, 17, 0, 290, 2274, 0), (13, 22, 0, 291, 2278, 0)]
def obiL : List (Nat × Nat × Nat) := [(11, 1, 216), (7, 3, 224), (4, 3, 265), (5, 3, 345), (3, 3, 358), (0, 3, 387), (1, 5, 407), (2, 3, 477), (9, 3, 512), (8, 3, 559), (6, 3, 590), (10, 3, 600), (12, 164, 1495)]
/-- places of a method's words: code, instance or static, selects, its class initialized -/
def mpL : List (Nat × Nat × Nat × Nat) := [(386, 385, 0, 194), (1080, 1079, 53, 194), (1084, 1083, 0, 194), (1088, 1087, 54, 194), (1141, 1140, 64, 194), (1170, 1169, 69, 194), (1123, 1122, 61, 194), (406, 405, 0, 195), (944, 943, 35, 195), (1104, 1103, 57, 195), (1108, 1107, 58, 195), (1112, 1111, 59, 195), (1208, 1207, 76, 195), (1116, 1115, 60, 195), (1126, 1125, 0, 195), (1146, 1145, 0, 195), (1212, 1211, 77, 195), (1166, 1165, 68, 195), (1162, 1161, 67, 195), (1134, 1133, 63, 195), (1130, 1129, 62, 195), (1151, 1150, 65, 195), (1156, 1155, 66, 195), (1183, 1182, 72, 195), (1175, 1174, 70, 195), (1179, 1178, 71, 195), (1187, 1186, 73, 195), (1191, 1190, 74, 195), (1196, 1195, 75, 195), (476, 475, 0, 196), (1226, 1225, 78, 196), (1229, 1228, 0, 196), (1238, 1237, 79, 196), (1242, 1241, 80, 196), (1251, 1250, 81, 196), (357, 356, 0, 193), (953, 952, 36, 193), (974, 973, 40, 193), (959, 958, 37, 193), (963, 962, 38, 193), (967, 966, 39, 193), (978, 977, 41, 193), (982, 981, 42, 193), (986, 985, 43, 193), (992, 991, 44, 193), (1422, 1421, 109, 193), (1425, 1424, 0, 193), (264, 263, 0, 190), (698, 697, 2, 190), (1049, 1048, 49, 190), (916, 915, 28, 190), (1411, 1410, 107, 190), (1010, 1009, 45, 190), (1018, 1017, 46, 190), (1026, 1025, 47, 190), (1378, 1377, 103, 190), (1370, 1369, 101, 190), (1374, 1373, 102, 190), (1040, 1039, 48, 190), (1057, 1056, 51, 190), (1068, 1067, 52, 190), (1053, 1052, 50, 190), (1062, 1061, 0, 190), (344, 343, 0, 192), (694, 693, 1, 192), (832, 831, 8, 192), (859, 858, 14, 192), (867, 866, 16, 192), (863, 862, 15, 192), (871, 870, 17, 192), (875, 874, 18, 192), (883, 882, 20, 192), (887, 886, 21, 192), (879, 878, 19, 192), (899, 898, 24, 192), (903, 902, 25, 192), (907, 906, 26, 192), (920, 919, 29, 192), (589, 588, 0, 199), (1395, 1394, 106, 199), (1418, 1417, 108, 199), (1433, 1432, 110, 199), (223, 222, 0, 189), (702, 701, 3, 189), (709, 708, 4, 189), (713, 712, 5, 189), (770, 769, 7, 189), (717, 716, 6, 189), (911, 910, 27, 189), (850, 849, 12, 189), (854, 853, 13, 189), (928, 927, 31, 189), (895, 894, 23, 189), (924, 923, 30, 189), (891, 890, 22, 189), (837, 836, 9, 189), (841, 840, 10, 189), (845, 844, 11, 189), (558, 557, 0, 198), (1304, 1303, 88, 198), (1317, 1316, 91, 198), (1333, 1332, 93, 198), (1313, 1312, 90, 198), (1328, 1327, 92, 198), (1358, 1357, 98, 198), (1362, 1361, 99, 198), (1349, 1348, 96, 198), (1354, 1353, 97, 198), (1345, 1344, 95, 198), (1341, 1340, 94, 198), (1366, 1365, 100, 198), (1382, 1381, 104, 198), (1386, 1385, 105, 198), (511, 510, 0, 197), (936, 935, 33, 197), (1267, 1266, 83, 197), (1259, 1258, 82, 197), (1271, 1270, 84, 197), (1279, 1278, 85, 197), (1287, 1286, 86, 197), (1309, 1308, 89, 197), (599, 598, 0, 200), (940, 939, 34, 200), (1442, 1441, 111, 200), (1454, 1453, 112, 200), (1458, 1457, 113, 200), (1472, 1471, 115, 200), (1476, 1475, 116, 200), (215, 214, 0, 188), (678, 676, 677, 188), (686, 684, 685, 188), (690, 688, 689, 188), (949, 947, 948, 188), (996, 994, 995, 188), (1000, 998, 999, 188), (1014, 1012, 1013, 188), (1022, 1020, 1021, 188), (1030, 1028, 1029, 188), (1045, 1043, 1044, 188), (1076, 1074, 1075, 188), (1092, 1090, 1091, 188), (1200, 1198, 1199, 188), (1204, 1202, 1203, 188), (1222, 1220, 1221, 188), (1234, 1232, 1233, 188), (1247, 1245, 1246, 188), (1255, 1253, 1254, 188), (1263, 1261, 1262, 188), (1275, 1273, 1274, 188), (1283, 1281, 1282, 188), (1292, 1290, 1291, 188), (1296, 1294, 1295, 188), (1337, 1335, 1336, 188), (1391, 1389, 1390, 188), (1429, 1427, 1428, 188), (1438, 1436, 1437, 188), (1446, 1444, 1445, 188), (1450, 1448, 1449, 188), (1464, 1462, 1463, 188), (1484, 1482, 1483, 188), (1488, 1486, 1487, 188), (682, 681, 0, 188), (932, 931, 32, 188), (1100, 1099, 56, 188), (1096, 1095, 55, 188), (1300, 1299, 87, 188), (1468, 1467, 114, 188), (1003, 1002, 0, 188), (1006, 1005, 0, 188), (1036, 1035, 0, 188), (1033, 1032, 0, 188), (412, 411, 0, 188), (1320, 1319, 0, 188), (1824, 1823, 121, 201), (1827, 1826, 0, 201), (1857, 1856, 0, 201), (1880, 1879, 126, 201), (1864, 1863, 122, 201), (1830, 1829, 0, 201), (1860, 1859, 0, 201), (1820, 1819, 120, 201), (1944, 1943, 142, 201), (1872, 1871, 124, 201), (1876, 1875, 125, 201), (1896, 1895, 130, 201), (1892, 1891, 129, 201), (1816, 1815, 119, 201), (1501, 1500, 117, 201), (1494, 1493, 0, 201), (1812, 1810, 1811, 201), (1868, 1867, 123, 201), (1912, 1911, 134, 201), (1920, 1919, 136, 201), (1916, 1915, 135, 201), (1908, 1907, 133, 201), (1924, 1923, 137, 201), (1932, 1931, 139, 201), (1928, 1927, 138, 201), (1936, 1935, 140, 201), (1888, 1887, 128, 201), (1884, 1883, 127, 201), (1940, 1939, 141, 201), (1900, 1899, 131, 201), (1904, 1903, 132, 201), (1948, 1946, 1947, 201), (1955, 1954, 0, 201), (1958, 1957, 0, 201), (1962, 1961, 143, 201), (1952, 1950, 1951, 201), (1974, 1973, 145, 201), (1978, 1977, 146, 201), (1970, 1969, 144, 201), (1986, 1985, 147, 201), (1966, 1964, 1965, 201), (1982, 1980, 1981, 201), (2000, 1999, 148, 201), (1993, 1992, 0, 201), (1996, 1995, 0, 201), (1990, 1988, 1989, 201), (2012, 2011, 150, 201), (2019, 2018, 0, 201), (2022, 2021, 0, 201), (2016, 2015, 151, 201), (2008, 2007, 149, 201), (2004, 2002, 2003, 201), (2026, 2024, 2025, 201), (2030, 2029, 152, 201), (2057, 2056, 157, 201), (2045, 2044, 0, 201), (2053, 2052, 156, 201), (2049, 2048, 155, 201), (2042, 2041, 154, 201), (2038, 2037, 153, 201), (2034, 2032, 2033, 201), (2061, 2059, 2060, 201), (2065, 2063, 2064, 201), (2069, 2068, 158, 201), (2073, 2072, 159, 201), (2080, 2079, 0, 201), (2077, 2075, 2076, 201), (2084, 2082, 2083, 201), (2088, 2087, 160, 201), (2092, 2090, 2091, 201), (2104, 2103, 161, 201), (2096, 2094, 2095, 201), (2100, 2098, 2099, 201), (2108, 2106, 2107, 201), (2112, 2110, 2111, 201), (2116, 2114, 2115, 201), (2138, 2137, 0, 201), (2135, 2134, 0, 201), (2124, 2123, 162, 201), (2132, 2131, 164, 201), (2146, 2145, 166, 201), (2142, 2141, 165, 201), (2128, 2127, 163, 201), (2120, 2118, 2119, 201), (2158, 2157, 168, 201), (2162, 2161, 169, 201), (2154, 2153, 167, 201), (2166, 2165, 170, 201), (2170, 2169, 171, 201), (2178, 2177, 173, 201), (2174, 2173, 172, 201), (2150, 2148, 2149, 201), (2182, 2180, 2181, 201), (2202, 2201, 178, 201), (2190, 2189, 175, 201), (2186, 2185, 174, 201), (2198, 2197, 177, 201), (2194, 2193, 176, 201), (2210, 2209, 180, 201), (2214, 2213, 181, 201), (2206, 2205, 179, 201), (2229, 2228, 0, 201), (2233, 2232, 184, 201), (2236, 2235, 0, 201), (2222, 2221, 182, 201), (2226, 2225, 183, 201), (2218, 2216, 2217, 201), (2240, 2238, 2239, 201), (1505, 1504, 118, 201), (2245, 2243, 2244, 201), (2249, 2247, 2248, 201), (2253, 2251, 2252, 201), (2261, 2260, 185, 201), (2265, 2264, 186, 201), (2257, 2255, 2256, 201), (2269, 2267, 2268, 201), (2273, 2271, 2272, 201), (2277, 2275, 2276, 201), (2281, 2279, 2280, 201), (820, 819, 0, 207), (823, 822, 0, 207), (827, 826, 0, 207), (1404, 1403, 0, 209), (1215, 1214, 0, 208), (1323, 1322, 0, 202), (789, 788, 0, 202), (705, 704, 0, 202), (722, 720, 721, 203), (732, 730, 731, 203), (775, 773, 774, 203), (779, 777, 778, 203), (726, 724, 725, 203), (736, 734, 735, 203), (742, 741, 0, 203), (808, 807, 0, 203), (739, 738, 0, 204), (786, 785, 0, 204), (783, 782, 0, 204), (793, 792, 0, 204), (760, 759, 0, 206), (756, 755, 0, 206), (796, 795, 0, 206), (802, 801, 0, 206), (814, 813, 0, 206), (817, 816, 0, 206), (750, 749, 0, 206), (753, 752, 0, 206), (805, 804, 0, 206), (1119, 1118, 0, 191), (268, 267, 0, 191), (747, 746, 0, 205), (811, 810, 0, 205)]
def cnL : List (Nat × Nat × Int × Nat) := [(16, 227, 65536, 799), (22, 110, 55232, 824), (22, 76, 56320, 828), (9, 43, 100000, 1288), (18, 265, 1431655765, 1405), (18, 266, 858993459, 1406), (18, 267, 252645135, 1407), (10, 35, 1000000, 1459), (12, 203, 388352, 1496), (12, 216, 97088, 1497), (12, 509, 100000, 1506)]
def clnL : List (Nat × Nat × Int × Nat) := [(7, 76, 32, 912), (1, 117, 2, 1147), (1, 129, -1, 1157), (23, 314, 6148914691236517205, 1216), (23, 316, 3689348814741910323, 1217), (23, 318, 1085102592571150095, 1218), (12, 17, 7499639, 1831), (12, 19, 1818846836, 1832), (12, 21, 2003398244, 1833), (12, 23, 7630704, 1834), (12, 25, 2002873452, 1835), (12, 27, 418263299685, 1836), (12, 29, 1718775661, 1837), (12, 31, 29807, 1838), (12, 33, 439854918756, 1839), (12, 35, 1919902052, 1840), (12, 37, 113715322316146, 1841), (12, 39, 1936289387, 1842), (12, 41, 7521414230229344624, 1843), (12, 43, 495589487205, 1844), (12, 45, 6385252, 1845), (12, 47, 28530, 1846), (12, 49, 7237492, 1847), (12, 51, 1685024357, 1848), (12, 53, 1818584947, 1849), (12, 55, 1953066341, 1850), (12, 57, 1650815860, 1851), (12, 59, 439855772532, 1852), (12, 61, 512735603827, 1853), (12, 63, 32210697498944868, 1854)]
/-- new: own class, index, class, its slots, places of classLink, instantiable, initialized -/
def newL : List (Nat × Nat × Nat × Nat × Nat × Nat × Nat) := [(13, 7, 11, 16, 211, 212, 188), (11, 13, 7, 9, 219, 220, 189), (11, 22, 4, 15, 260, 261, 190), (11, 32, 5, 2, 340, 341, 192), (11, 41, 3, 7, 353, 354, 193), (11, 54, 0, 3, 382, 383, 194), (11, 61, 1, 17, 402, 403, 195), (1, 25, 0, 3, 408, 383, 194), (11, 70, 2, 9, 472, 473, 196), (11, 77, 9, 10, 507, 508, 197), (11, 84, 8, 7, 554, 555, 198), (11, 91, 6, 1, 585, 586, 199), (11, 98, 10, 7, 595, 596, 200), (13, 10, 12, 100, 1490, 1491, 201)]
def lyL : List (List Nat) := [[395, 397, 399], [437, 439, 441, 443, 445, 447, 449, 451, 453, 455, 457, 459, 461, 463, 465, 467, 469], [488, 490, 492, 494, 496, 498, 500, 502, 504], [367, 369, 371, 373, 375, 377, 379], [308, 310, 312, 314, 316, 318, 320, 322, 324, 326, 328, 330, 332, 334, 336], [348, 350], [592], [240, 242, 244, 246, 248, 250, 252, 254, 256], [570, 572, 574, 576, 578, 580, 582], [533, 535, 537, 539, 541, 543, 545, 547, 549, 551], [611, 613, 615, 617, 619, 621, 623], [642, 644, 646, 648, 650, 652, 654, 656, 658, 660, 662, 664, 666, 668, 670, 672], [1607, 1609, 1611, 1613, 1615, 1617, 1619, 1621, 1623, 1625, 1627, 1629, 1631, 1633, 1635, 1637, 1639, 1641, 1643, 1645, 1647, 1649, 1651, 1653, 1655, 1657, 1659, 1661, 1663, 1665, 1667, 1669, 1671, 1673, 1675, 1677, 1679, 1681, 1683, 1685, 1687, 1689, 1691, 1693, 1695, 1697, 1699, 1701, 1703, 1705, 1707, 1709, 1711, 1713, 1715, 1717, 1719, 1721, 1723, 1725, 1727, 1729, 1731, 1733, 1735, 1737, 1739, 1741, 1743, 1745, 1747, 1749, 1751, 1753, 1755, 1757, 1759, 1761, 1763, 1765, 1767, 1769, 1771, 1773, 1775, 1777, 1779, 1781, 1783, 1785, 1787, 1789, 1791, 1793, 1795, 1797, 1799, 1801, 1803, 1805]]
def stL : List Nat := [2, 14, 15, 31, 46, 62, 167, 168, 169, 170, 171, 172, 174, 175, 178, 179, 205, 206, 216, 217, 220, 221, 228, 238, 249, 250, 274, 276, 292, 293, 294, 295, 296, 297, 298, 299, 306, 307, 308, 309, 310, 311, 312, 313, 314, 315, 316, 317, 318, 319, 320, 321, 322, 323, 324]
def acL : List Nat := [259, 339, 945, 1808]
end
section
/-! ===== the tables' words stand where the tables say ===== -/
def cT (ci : Nat) : u_T := (vwCl.getD ci ("", TX0, 0)).2.1
def cN (ci : Nat) : Nat := (vwCl.getD ci ("", TX0, 0)).2.2
def fldW (q : Nat × Nat × Nat × Nat × Nat × Nat) : Cond :=
  if q.2.2.2.2.2 = 1 then .fieldLinkNest (RN q.1) q.2.1 (cT q.2.2.1 q.2.2.2.1).1 (cT q.2.2.1 q.2.2.2.1).2.1 (cT q.2.2.1 q.2.2.2.1).2.2.1 "SoarHouse"
  else .fieldLink (RN q.1) q.2.1 (cT q.2.2.1 q.2.2.2.1).1 (cT q.2.2.1 q.2.2.2.1).2.1 (cT q.2.2.1 q.2.2.2.1).2.2.1
def calW (q : Nat × Nat × Nat × Nat × Nat × Nat) : Cond :=
  if q.2.2.2.2.2 = 1 then .methodLinkNest (RN q.1) q.2.1 (mY q.2.2.2.1) "SoarHouse" else .methodLink (RN q.1) q.2.1 (mY q.2.2.2.1)
def mp (j : Nat) : Nat × Nat × Nat × Nat := mpL.getD j (0, 0, 0, 0)
def isSt (j : Nat) : Bool := stL.contains j
def chk {α : Type} (w : α → Cond) (ps : α → Nat) (tb : List Cond) (es : List α) : Bool := es.all (fun q => match tb.drop (ps q) with
  | [] => false
  | c :: _ => decide (c = w q))
theorem chk_ok {α : Type} {w : α → Cond} {ps : α → Nat} {tb : List Cond} {es : List α} (h : chk w ps tb es = true) : ∀ q ∈ es, w q ∈ tb := by
  intro q hq
  have h1 := List.all_eq_true.mp h q hq
  cases hd : tb.drop (ps q) with
  | nil => rw [hd] at h1; cases h1
  | cons c cs =>
    rw [hd] at h1
    have h2 : c = w q := of_decide_eq_true h1
    exact List.mem_of_mem_drop (i := ps q) (by rw [hd, h2]; exact List.mem_cons_self)
theorem fld_in0 : chk fldW (fun q => q.2.2.2.2.1) lw_tbl fldL = true := by decide +kernel
theorem cal_in0 : chk calW (fun q => q.2.2.2.2.1) lw_tbl calL = true := by decide +kernel
theorem fld_rg : ∀ q ∈ fldL, q.2.2.2.1 < cN q.2.2.1 ∧ q.2.2.1 < 13 := by decide +kernel
theorem cal_rg : ∀ q ∈ calL, q.2.2.2.1 < 325 ∧ q.2.2.1 < 3 ∧ (q.2.2.1 = 1 ↔ isSt q.2.2.2.1 = true) ∧ (q.2.2.1 = 2 ↔ (mY q.2.2.2.1).name = "<init>") := by decide +kernel
theorem mst_in0 : chk (fun j => if isSt j then .static (mY j) else .instanceMethod (mY j)) (fun j => (mp j).2.1) lw_tbl (List.range 325) = true := by decide +kernel
theorem mse_in0 : chk (fun j => .selects (mY j).cls (mY j) (mY j)) (fun j => (mp j).2.2.1) lw_tbl ((List.range 325).filter (fun j => !isSt j && !decide ((mY j).name = "<init>"))) = true := by decide +kernel
theorem min_in0 : chk (fun j => .initialized (mY j).cls) (fun j => (mp j).2.2.2) lw_tbl (List.range 325) = true := by decide +kernel
theorem mnm_ok : ∀ j, j < 325 → (mY j).cls ≠ "java/lang/invoke/MethodHandle" ∧ (mY j).cls ≠ "java/lang/invoke/VarHandle" ∧ (parseMethodDescriptor (mY j).desc).map (fun d => d.parameters.length) = some (mA j) := by decide +kernel
theorem mow_ok : ∀ j, j < 325 → (mY j).cls = RN (mO j) := by decide +kernel
theorem obi_in0 : chk (fun q : Nat × Nat × Nat => .methodLink (RN q.1) q.2.1 Lib.objectInit) (fun q => q.2.2) lw_tbl obiL = true := by decide +kernel
theorem cn_in0 : chk (fun q : Nat × Nat × Int × Nat => .constant (RN q.1) q.2.1 (Int32.ofInt q.2.2.1)) (fun q => q.2.2.2) lw_tbl cnL = true := by decide +kernel
theorem cn_rg : ∀ q ∈ cnL, -2147483648 ≤ q.2.2.1 ∧ q.2.2.1 ≤ 2147483647 := by decide +kernel
theorem cln_in0 : chk (fun q : Nat × Nat × Int × Nat => .constantLong (RN q.1) q.2.1 (Int64.ofInt q.2.2.1)) (fun q => q.2.2.2) lw_tbl clnL = true := by decide +kernel
theorem cln_rg : ∀ q ∈ clnL, -9223372036854775808 ≤ q.2.2.1 ∧ q.2.2.1 ≤ 9223372036854775807 := by decide +kernel
theorem new_in1 : chk (fun q : Nat × Nat × Nat × Nat × Nat × Nat × Nat => .classLink (RN q.1) q.2.1 (RN q.2.2.1)) (fun q => q.2.2.2.2.1) lw_tbl newL = true := by decide +kernel
theorem new_in2 : chk (fun q : Nat × Nat × Nat × Nat × Nat × Nat × Nat => .instantiable (RN q.2.2.1) (cN q.2.2.1)) (fun q => q.2.2.2.2.2.1) lw_tbl newL = true := by decide +kernel
theorem new_in3 : chk (fun q : Nat × Nat × Nat × Nat × Nat × Nat × Nat => .initialized (RN q.2.2.1)) (fun q => q.2.2.2.2.2.2) lw_tbl newL = true := by decide +kernel
theorem new_rg : ∀ q ∈ newL, q.2.2.1 < 13 := by decide +kernel
def ckL : List (Nat × Nat) := (List.range 13).flatMap (fun c => (List.range (cN c)).map (fun k => (c, k)))
theorem lay_in0 : chk (fun q : Nat × Nat => u_lay (RN q.1) (cT q.1) q.2) (fun q => (lyL.getD q.1 []).getD q.2 0) lw_tbl ckL = true := by decide +kernel
theorem ac_in0 : chk (fun q : Nat × FieldType => .arrayClass q.2) (fun q => acL.getD q.1 0) lw_tbl [(0, .int), (1, .long), (2, .byte), (3, .boolean)] = true := by decide +kernel
theorem obj_in : Cond.instanceMethod Lib.objectInit ∈ lw_tbl ∧ Cond.code Lib.objectInit ⟨#[0xb1]⟩ 1 none ∈ lw_tbl := ⟨chk_ok (w := fun _ : Unit => .instanceMethod Lib.objectInit) (ps := fun _ => 217) (es := [()]) (by decide +kernel) () List.mem_cons_self, chk_ok (w := fun _ : Unit => .code Lib.objectInit ⟨#[0xb1]⟩ 1 none) (ps := fun _ => 218) (es := [()]) (by decide +kernel) () List.mem_cons_self⟩
theorem cl_ok : ∀ c, c < 13 → vwCl[c]? = some (RN c, cT c, cN c) := by
  intro c hc
  rcases c with _ | _ | _ | _ | _ | _ | _ | _ | _ | _ | _ | _ | _ | c <;> first | rfl | omega
theorem ty_ok : ∀ c, c < 13 → ∀ k, k < cN c → parseFieldDescriptor (cT c k).2.2.1 = some (tyA c k) := by
  intro c hc
  rcases c with _ | _ | _ | _ | _ | _ | _ | _ | _ | _ | _ | _ | _ | c
  · exact tyX0_ok
  · exact tyX1_ok
  · exact tyX2_ok
  · exact tyX3_ok
  · exact tyX4_ok
  · exact tyX5_ok
  · exact tyX6_ok
  · exact tyX7_ok
  · exact tyX8_ok
  · exact tyX9_ok
  · exact tyX10_ok
  · exact tyX11_ok
  · exact tyX12_ok
  · omega
theorem nm_ok : ∀ c, c < 13 → ∀ a, a < cN c → ∀ b, b < cN c → a ≠ b → (cT c a).2.1 ≠ (cT c b).2.1 := by
  intro c hc
  rcases c with _ | _ | _ | _ | _ | _ | _ | _ | _ | _ | _ | _ | _ | c
  · exact nmX0
  · exact nmX1
  · exact nmX2
  · exact nmX3
  · exact nmX4
  · exact nmX5
  · exact nmX6
  · exact nmX7
  · exact nmX8
  · exact nmX9
  · exact nmX10
  · exact nmX11
  · exact nmX12
  · omega
end
section
theorem mco_0 : chk (fun j => .code (mY j) (mB j) (mX j) (mR j)) (fun j => (mp j).1) lw_tbl [0, 1, 2, 3, 4] = true := by decide +kernel
theorem mco_5 : chk (fun j => .code (mY j) (mB j) (mX j) (mR j)) (fun j => (mp j).1) lw_tbl [5, 6, 7, 8, 9] = true := by decide +kernel
theorem mco_10 : chk (fun j => .code (mY j) (mB j) (mX j) (mR j)) (fun j => (mp j).1) lw_tbl [10, 11, 12, 13, 14] = true := by decide +kernel
theorem mco_15 : chk (fun j => .code (mY j) (mB j) (mX j) (mR j)) (fun j => (mp j).1) lw_tbl [15, 16, 17, 18, 19] = true := by decide +kernel
theorem mco_20 : chk (fun j => .code (mY j) (mB j) (mX j) (mR j)) (fun j => (mp j).1) lw_tbl [20, 21, 22, 23, 24] = true := by decide +kernel
theorem mco_25 : chk (fun j => .code (mY j) (mB j) (mX j) (mR j)) (fun j => (mp j).1) lw_tbl [25, 26, 27, 28, 29] = true := by decide +kernel
theorem mco_30 : chk (fun j => .code (mY j) (mB j) (mX j) (mR j)) (fun j => (mp j).1) lw_tbl [30, 31, 32, 33, 34] = true := by decide +kernel
theorem mco_35 : chk (fun j => .code (mY j) (mB j) (mX j) (mR j)) (fun j => (mp j).1) lw_tbl [35, 36, 37, 38, 39] = true := by decide +kernel
theorem mco_40 : chk (fun j => .code (mY j) (mB j) (mX j) (mR j)) (fun j => (mp j).1) lw_tbl [40, 41, 42, 43, 44] = true := by decide +kernel
theorem mco_45 : chk (fun j => .code (mY j) (mB j) (mX j) (mR j)) (fun j => (mp j).1) lw_tbl [45, 46, 47, 48, 49] = true := by decide +kernel
theorem mco_50 : chk (fun j => .code (mY j) (mB j) (mX j) (mR j)) (fun j => (mp j).1) lw_tbl [50, 51, 52, 53, 54] = true := by decide +kernel
theorem mco_55 : chk (fun j => .code (mY j) (mB j) (mX j) (mR j)) (fun j => (mp j).1) lw_tbl [55, 56, 57, 58, 59] = true := by decide +kernel
theorem mco_60 : chk (fun j => .code (mY j) (mB j) (mX j) (mR j)) (fun j => (mp j).1) lw_tbl [60, 61, 62, 63, 64] = true := by decide +kernel
theorem mco_65 : chk (fun j => .code (mY j) (mB j) (mX j) (mR j)) (fun j => (mp j).1) lw_tbl [65, 66, 67, 68, 69] = true := by decide +kernel
theorem mco_70 : chk (fun j => .code (mY j) (mB j) (mX j) (mR j)) (fun j => (mp j).1) lw_tbl [70, 71, 72, 73, 74] = true := by decide +kernel
theorem mco_75 : chk (fun j => .code (mY j) (mB j) (mX j) (mR j)) (fun j => (mp j).1) lw_tbl [75, 76, 77, 78, 79] = true := by decide +kernel
theorem mco_80 : chk (fun j => .code (mY j) (mB j) (mX j) (mR j)) (fun j => (mp j).1) lw_tbl [80, 81, 82, 83, 84] = true := by decide +kernel
theorem mco_85 : chk (fun j => .code (mY j) (mB j) (mX j) (mR j)) (fun j => (mp j).1) lw_tbl [85, 86, 87, 88, 89] = true := by decide +kernel
theorem mco_90 : chk (fun j => .code (mY j) (mB j) (mX j) (mR j)) (fun j => (mp j).1) lw_tbl [90, 91, 92, 93, 94] = true := by decide +kernel
theorem mco_95 : chk (fun j => .code (mY j) (mB j) (mX j) (mR j)) (fun j => (mp j).1) lw_tbl [95, 96, 97, 98, 99] = true := by decide +kernel
theorem mco_100 : chk (fun j => .code (mY j) (mB j) (mX j) (mR j)) (fun j => (mp j).1) lw_tbl [100, 101, 102, 103, 104] = true := by decide +kernel
theorem mco_105 : chk (fun j => .code (mY j) (mB j) (mX j) (mR j)) (fun j => (mp j).1) lw_tbl [105, 106, 107, 108, 109] = true := by decide +kernel
theorem mco_110 : chk (fun j => .code (mY j) (mB j) (mX j) (mR j)) (fun j => (mp j).1) lw_tbl [110, 111, 112, 113, 114] = true := by decide +kernel
theorem mco_115 : chk (fun j => .code (mY j) (mB j) (mX j) (mR j)) (fun j => (mp j).1) lw_tbl [115, 116, 117, 118, 119] = true := by decide +kernel
theorem mco_120 : chk (fun j => .code (mY j) (mB j) (mX j) (mR j)) (fun j => (mp j).1) lw_tbl [120, 121, 122, 123, 124] = true := by decide +kernel
theorem mco_125 : chk (fun j => .code (mY j) (mB j) (mX j) (mR j)) (fun j => (mp j).1) lw_tbl [125, 126, 127, 128, 129] = true := by decide +kernel
theorem mco_130 : chk (fun j => .code (mY j) (mB j) (mX j) (mR j)) (fun j => (mp j).1) lw_tbl [130, 131, 132, 133, 134] = true := by decide +kernel
theorem mco_135 : chk (fun j => .code (mY j) (mB j) (mX j) (mR j)) (fun j => (mp j).1) lw_tbl [135, 136, 137, 138, 139] = true := by decide +kernel
theorem mco_140 : chk (fun j => .code (mY j) (mB j) (mX j) (mR j)) (fun j => (mp j).1) lw_tbl [140, 141, 142, 143, 144] = true := by decide +kernel
theorem mco_145 : chk (fun j => .code (mY j) (mB j) (mX j) (mR j)) (fun j => (mp j).1) lw_tbl [145, 146, 147, 148, 149] = true := by decide +kernel
theorem mco_150 : chk (fun j => .code (mY j) (mB j) (mX j) (mR j)) (fun j => (mp j).1) lw_tbl [150, 151, 152, 153, 154] = true := by decide +kernel
theorem mco_155 : chk (fun j => .code (mY j) (mB j) (mX j) (mR j)) (fun j => (mp j).1) lw_tbl [155, 156, 157, 158, 159] = true := by decide +kernel
theorem mco_160 : chk (fun j => .code (mY j) (mB j) (mX j) (mR j)) (fun j => (mp j).1) lw_tbl [160, 161, 162, 163, 164] = true := by decide +kernel
theorem mco_165 : chk (fun j => .code (mY j) (mB j) (mX j) (mR j)) (fun j => (mp j).1) lw_tbl [165, 166, 167, 168, 169] = true := by decide +kernel
theorem mco_170 : chk (fun j => .code (mY j) (mB j) (mX j) (mR j)) (fun j => (mp j).1) lw_tbl [170, 171, 172, 173, 174] = true := by decide +kernel
theorem mco_175 : chk (fun j => .code (mY j) (mB j) (mX j) (mR j)) (fun j => (mp j).1) lw_tbl [175, 176, 177, 178, 179] = true := by decide +kernel
theorem mco_180 : chk (fun j => .code (mY j) (mB j) (mX j) (mR j)) (fun j => (mp j).1) lw_tbl [180, 181, 182, 183, 184] = true := by decide +kernel
theorem mco_185 : chk (fun j => .code (mY j) (mB j) (mX j) (mR j)) (fun j => (mp j).1) lw_tbl [185, 186, 187, 188, 189] = true := by decide +kernel
theorem mco_190 : chk (fun j => .code (mY j) (mB j) (mX j) (mR j)) (fun j => (mp j).1) lw_tbl [190, 191, 192, 193, 194] = true := by decide +kernel
theorem mco_195 : chk (fun j => .code (mY j) (mB j) (mX j) (mR j)) (fun j => (mp j).1) lw_tbl [195, 196, 197, 198, 199] = true := by decide +kernel
theorem mco_200 : chk (fun j => .code (mY j) (mB j) (mX j) (mR j)) (fun j => (mp j).1) lw_tbl [200, 201, 202, 203, 204] = true := by decide +kernel
theorem mco_205 : chk (fun j => .code (mY j) (mB j) (mX j) (mR j)) (fun j => (mp j).1) lw_tbl [205, 206, 207, 208, 209] = true := by decide +kernel
theorem mco_210 : chk (fun j => .code (mY j) (mB j) (mX j) (mR j)) (fun j => (mp j).1) lw_tbl [210, 211, 212, 213, 214] = true := by decide +kernel
theorem mco_215 : chk (fun j => .code (mY j) (mB j) (mX j) (mR j)) (fun j => (mp j).1) lw_tbl [215, 216, 217, 218, 219] = true := by decide +kernel
theorem mco_220 : chk (fun j => .code (mY j) (mB j) (mX j) (mR j)) (fun j => (mp j).1) lw_tbl [220, 221, 222, 223, 224] = true := by decide +kernel
theorem mco_225 : chk (fun j => .code (mY j) (mB j) (mX j) (mR j)) (fun j => (mp j).1) lw_tbl [225, 226, 227, 228, 229] = true := by decide +kernel
theorem mco_230 : chk (fun j => .code (mY j) (mB j) (mX j) (mR j)) (fun j => (mp j).1) lw_tbl [230, 231, 232, 233, 234] = true := by decide +kernel
theorem mco_235 : chk (fun j => .code (mY j) (mB j) (mX j) (mR j)) (fun j => (mp j).1) lw_tbl [235, 236, 237, 238, 239] = true := by decide +kernel
theorem mco_240 : chk (fun j => .code (mY j) (mB j) (mX j) (mR j)) (fun j => (mp j).1) lw_tbl [240, 241, 242, 243, 244] = true := by decide +kernel
theorem mco_245 : chk (fun j => .code (mY j) (mB j) (mX j) (mR j)) (fun j => (mp j).1) lw_tbl [245, 246, 247, 248, 249] = true := by decide +kernel
theorem mco_250 : chk (fun j => .code (mY j) (mB j) (mX j) (mR j)) (fun j => (mp j).1) lw_tbl [250, 251, 252, 253, 254] = true := by decide +kernel
theorem mco_255 : chk (fun j => .code (mY j) (mB j) (mX j) (mR j)) (fun j => (mp j).1) lw_tbl [255, 256, 257, 258, 259] = true := by decide +kernel
theorem mco_260 : chk (fun j => .code (mY j) (mB j) (mX j) (mR j)) (fun j => (mp j).1) lw_tbl [260, 261, 262, 263, 264] = true := by decide +kernel
theorem mco_265 : chk (fun j => .code (mY j) (mB j) (mX j) (mR j)) (fun j => (mp j).1) lw_tbl [265, 266, 267, 268, 269] = true := by decide +kernel
theorem mco_270 : chk (fun j => .code (mY j) (mB j) (mX j) (mR j)) (fun j => (mp j).1) lw_tbl [270, 271, 272, 273, 274] = true := by decide +kernel
theorem mco_275 : chk (fun j => .code (mY j) (mB j) (mX j) (mR j)) (fun j => (mp j).1) lw_tbl [275, 276, 277, 278, 279] = true := by decide +kernel
theorem mco_280 : chk (fun j => .code (mY j) (mB j) (mX j) (mR j)) (fun j => (mp j).1) lw_tbl [280, 281, 282, 283, 284] = true := by decide +kernel
theorem mco_285 : chk (fun j => .code (mY j) (mB j) (mX j) (mR j)) (fun j => (mp j).1) lw_tbl [285, 286, 287, 288, 289] = true := by decide +kernel
theorem mco_290 : chk (fun j => .code (mY j) (mB j) (mX j) (mR j)) (fun j => (mp j).1) lw_tbl [290, 291, 292, 293, 294] = true := by decide +kernel
theorem mco_295 : chk (fun j => .code (mY j) (mB j) (mX j) (mR j)) (fun j => (mp j).1) lw_tbl [295, 296, 297, 298, 299] = true := by decide +kernel
theorem mco_300 : chk (fun j => .code (mY j) (mB j) (mX j) (mR j)) (fun j => (mp j).1) lw_tbl [300, 301, 302, 303, 304] = true := by decide +kernel
theorem mco_305 : chk (fun j => .code (mY j) (mB j) (mX j) (mR j)) (fun j => (mp j).1) lw_tbl [305, 306, 307, 308, 309] = true := by decide +kernel
theorem mco_310 : chk (fun j => .code (mY j) (mB j) (mX j) (mR j)) (fun j => (mp j).1) lw_tbl [310, 311, 312, 313, 314] = true := by decide +kernel
theorem mco_315 : chk (fun j => .code (mY j) (mB j) (mX j) (mR j)) (fun j => (mp j).1) lw_tbl [315, 316, 317, 318, 319] = true := by decide +kernel
theorem mco_320 : chk (fun j => .code (mY j) (mB j) (mX j) (mR j)) (fun j => (mp j).1) lw_tbl [320, 321, 322, 323, 324] = true := by decide +kernel
theorem mco_in : ∀ j, j < 325 → Cond.code (mY j) (mB j) (mX j) (mR j) ∈ lw_tbl := by
  intro j hj
  have h : j ∈ ([0, 1, 2, 3, 4] : List Nat) ++ [5, 6, 7, 8, 9] ++ [10, 11, 12, 13, 14] ++ [15, 16, 17, 18, 19] ++ [20, 21, 22, 23, 24] ++ [25, 26, 27, 28, 29] ++ [30, 31, 32, 33, 34] ++ [35, 36, 37, 38, 39] ++ [40, 41, 42, 43, 44] ++ [45, 46, 47, 48, 49] ++ [50, 51, 52, 53, 54] ++ [55, 56, 57, 58, 59] ++ [60, 61, 62, 63, 64] ++ [65, 66, 67, 68, 69] ++ [70, 71, 72, 73, 74] ++ [75, 76, 77, 78, 79] ++ [80, 81, 82, 83, 84] ++ [85, 86, 87, 88, 89] ++ [90, 91, 92, 93, 94] ++ [95, 96, 97, 98, 99] ++ [100, 101, 102, 103, 104] ++ [105, 106, 107, 108, 109] ++ [110, 111, 112, 113, 114] ++ [115, 116, 117, 118, 119] ++ [120, 121, 122, 123, 124] ++ [125, 126, 127, 128, 129] ++ [130, 131, 132, 133, 134] ++ [135, 136, 137, 138, 139] ++ [140, 141, 142, 143, 144] ++ [145, 146, 147, 148, 149] ++ [150, 151, 152, 153, 154] ++ [155, 156, 157, 158, 159] ++ [160, 161, 162, 163, 164] ++ [165, 166, 167, 168, 169] ++ [170, 171, 172, 173, 174] ++ [175, 176, 177, 178, 179] ++ [180, 181, 182, 183, 184] ++ [185, 186, 187, 188, 189] ++ [190, 191, 192, 193, 194] ++ [195, 196, 197, 198, 199] ++ [200, 201, 202, 203, 204] ++ [205, 206, 207, 208, 209] ++ [210, 211, 212, 213, 214] ++ [215, 216, 217, 218, 219] ++ [220, 221, 222, 223, 224] ++ [225, 226, 227, 228, 229] ++ [230, 231, 232, 233, 234] ++ [235, 236, 237, 238, 239] ++ [240, 241, 242, 243, 244] ++ [245, 246, 247, 248, 249] ++ [250, 251, 252, 253, 254] ++ [255, 256, 257, 258, 259] ++ [260, 261, 262, 263, 264] ++ [265, 266, 267, 268, 269] ++ [270, 271, 272, 273, 274] ++ [275, 276, 277, 278, 279] ++ [280, 281, 282, 283, 284] ++ [285, 286, 287, 288, 289] ++ [290, 291, 292, 293, 294] ++ [295, 296, 297, 298, 299] ++ [300, 301, 302, 303, 304] ++ [305, 306, 307, 308, 309] ++ [310, 311, 312, 313, 314] ++ [315, 316, 317, 318, 319] ++ [320, 321, 322, 323, 324] := by
    have : ∀ j, j < 325 → j ∈ ([0, 1, 2, 3, 4] : List Nat) ++ [5, 6, 7, 8, 9] ++ [10, 11, 12, 13, 14] ++ [15, 16, 17, 18, 19] ++ [20, 21, 22, 23, 24] ++ [25, 26, 27, 28, 29] ++ [30, 31, 32, 33, 34] ++ [35, 36, 37, 38, 39] ++ [40, 41, 42, 43, 44] ++ [45, 46, 47, 48, 49] ++ [50, 51, 52, 53, 54] ++ [55, 56, 57, 58, 59] ++ [60, 61, 62, 63, 64] ++ [65, 66, 67, 68, 69] ++ [70, 71, 72, 73, 74] ++ [75, 76, 77, 78, 79] ++ [80, 81, 82, 83, 84] ++ [85, 86, 87, 88, 89] ++ [90, 91, 92, 93, 94] ++ [95, 96, 97, 98, 99] ++ [100, 101, 102, 103, 104] ++ [105, 106, 107, 108, 109] ++ [110, 111, 112, 113, 114] ++ [115, 116, 117, 118, 119] ++ [120, 121, 122, 123, 124] ++ [125, 126, 127, 128, 129] ++ [130, 131, 132, 133, 134] ++ [135, 136, 137, 138, 139] ++ [140, 141, 142, 143, 144] ++ [145, 146, 147, 148, 149] ++ [150, 151, 152, 153, 154] ++ [155, 156, 157, 158, 159] ++ [160, 161, 162, 163, 164] ++ [165, 166, 167, 168, 169] ++ [170, 171, 172, 173, 174] ++ [175, 176, 177, 178, 179] ++ [180, 181, 182, 183, 184] ++ [185, 186, 187, 188, 189] ++ [190, 191, 192, 193, 194] ++ [195, 196, 197, 198, 199] ++ [200, 201, 202, 203, 204] ++ [205, 206, 207, 208, 209] ++ [210, 211, 212, 213, 214] ++ [215, 216, 217, 218, 219] ++ [220, 221, 222, 223, 224] ++ [225, 226, 227, 228, 229] ++ [230, 231, 232, 233, 234] ++ [235, 236, 237, 238, 239] ++ [240, 241, 242, 243, 244] ++ [245, 246, 247, 248, 249] ++ [250, 251, 252, 253, 254] ++ [255, 256, 257, 258, 259] ++ [260, 261, 262, 263, 264] ++ [265, 266, 267, 268, 269] ++ [270, 271, 272, 273, 274] ++ [275, 276, 277, 278, 279] ++ [280, 281, 282, 283, 284] ++ [285, 286, 287, 288, 289] ++ [290, 291, 292, 293, 294] ++ [295, 296, 297, 298, 299] ++ [300, 301, 302, 303, 304] ++ [305, 306, 307, 308, 309] ++ [310, 311, 312, 313, 314] ++ [315, 316, 317, 318, 319] ++ [320, 321, 322, 323, 324] := by decide +kernel
    exact this j hj
  simp only [List.mem_append, or_assoc] at h
  rcases h with h | h | h | h | h | h | h | h | h | h | h | h | h | h | h | h | h | h | h | h | h | h | h | h | h | h | h | h | h | h | h | h | h | h | h | h | h | h | h | h | h | h | h | h | h | h | h | h | h | h | h | h | h | h | h | h | h | h | h | h | h | h | h | h | h
  · exact chk_ok mco_0 j h
  · exact chk_ok mco_5 j h
  · exact chk_ok mco_10 j h
  · exact chk_ok mco_15 j h
  · exact chk_ok mco_20 j h
  · exact chk_ok mco_25 j h
  · exact chk_ok mco_30 j h
  · exact chk_ok mco_35 j h
  · exact chk_ok mco_40 j h
  · exact chk_ok mco_45 j h
  · exact chk_ok mco_50 j h
  · exact chk_ok mco_55 j h
  · exact chk_ok mco_60 j h
  · exact chk_ok mco_65 j h
  · exact chk_ok mco_70 j h
  · exact chk_ok mco_75 j h
  · exact chk_ok mco_80 j h
  · exact chk_ok mco_85 j h
  · exact chk_ok mco_90 j h
  · exact chk_ok mco_95 j h
  · exact chk_ok mco_100 j h
  · exact chk_ok mco_105 j h
  · exact chk_ok mco_110 j h
  · exact chk_ok mco_115 j h
  · exact chk_ok mco_120 j h
  · exact chk_ok mco_125 j h
  · exact chk_ok mco_130 j h
  · exact chk_ok mco_135 j h
  · exact chk_ok mco_140 j h
  · exact chk_ok mco_145 j h
  · exact chk_ok mco_150 j h
  · exact chk_ok mco_155 j h
  · exact chk_ok mco_160 j h
  · exact chk_ok mco_165 j h
  · exact chk_ok mco_170 j h
  · exact chk_ok mco_175 j h
  · exact chk_ok mco_180 j h
  · exact chk_ok mco_185 j h
  · exact chk_ok mco_190 j h
  · exact chk_ok mco_195 j h
  · exact chk_ok mco_200 j h
  · exact chk_ok mco_205 j h
  · exact chk_ok mco_210 j h
  · exact chk_ok mco_215 j h
  · exact chk_ok mco_220 j h
  · exact chk_ok mco_225 j h
  · exact chk_ok mco_230 j h
  · exact chk_ok mco_235 j h
  · exact chk_ok mco_240 j h
  · exact chk_ok mco_245 j h
  · exact chk_ok mco_250 j h
  · exact chk_ok mco_255 j h
  · exact chk_ok mco_260 j h
  · exact chk_ok mco_265 j h
  · exact chk_ok mco_270 j h
  · exact chk_ok mco_275 j h
  · exact chk_ok mco_280 j h
  · exact chk_ok mco_285 j h
  · exact chk_ok mco_290 j h
  · exact chk_ok mco_295 j h
  · exact chk_ok mco_300 j h
  · exact chk_ok mco_305 j h
  · exact chk_ok mco_310 j h
  · exact chk_ok mco_315 j h
  · exact chk_ok mco_320 j h
end
section
/-- getstatic: own class, index, 0 DX 1 DY, place of the word -/
def gsL : List (Nat × Nat × Nat × Nat) := [(11, 341, 0, 413), (11, 344, 1, 415), (4, 83, 0, 1070), (4, 86, 1, 1071)]
/-- System.arraycopy: own class, index, place of the word -/
def acpL : List (Nat × Nat × Nat) := [(10, 57, 1477)]
/-- ldc of a text: own class, index, which text, place of the word -/
def strL : List (Nat × Nat × Nat × Nat) := [(7, 68, 0, 718), (7, 60, 1, 771)]
/-- fields of a text: own class, index, 0 value 1 coder, place of the word -/
def sfL : List (Nat × Nat × Nat × Nat) := [(14, 9, 0, 2282), (14, 15, 1, 2283)]
/-- statics of the JDK: own class, index, 0 COMPACT_STRINGS 1 SIOOBE_FORMATTER, place of the word -/
def gbL : List (Nat × Nat × Nat × Nat) := [(14, 38, 0, 727), (14, 1053, 1, 743)]
def slen (i : Nat) : Nat := if i = 0 then 126 else 10
/-! ===== the pure machine: numbers as Int, cells by their numbers, a step as a predicate's way back ===== -/
abbrev pv : Type := Int ⊕ (Int ⊕ Nat)
abbrev pL : Type := List (Option pv)
abbrev pM : Type := Nat → Nat → Int
abbrev pQ : Type := Option pv → pM → Prop
abbrev pO : Type := Nat → List pv → Nat → pM → pQ → Prop
abbrev pP : Type := Nat → pL → List pv → Nat → pM → Prop
abbrev vi (x : Int) : pv := Sum.inl x
abbrev vl (x : Int) : pv := Sum.inr (Sum.inl x)
abbrev vr (k : Nat) : pv := Sum.inr (Sum.inr k)
def r32 (z : Int) : Prop := -2147483648 ≤ z ∧ z ≤ 2147483647
def r64 (z : Int) : Prop := -9223372036854775808 ≤ z ∧ z ≤ 9223372036854775807
def w32 (z : Int) : Int := (z + 2147483648) % 4294967296 - 2147483648
def w64 (z : Int) : Int := (z + 9223372036854775808) % 18446744073709551616 - 9223372036854775808
def w8 (z : Int) : Int := (z + 128) % 256 - 128
def st (M : pM) (k i : Nat) (v : Int) : pM := fun a b => if a = k ∧ b = i then v else M a b
def zr (M : pM) (k : Nat) : pM := fun a b => if a = k then 0 else M a b
def cpy (M : pM) (a b x y k : Nat) : pM := fun c i => if c = b ∧ y ≤ i ∧ i < y + k then M a (x + (i - y)) else M c i
def ob (n a : Nat) : Nat := if a < n then (match SH a with
  | .inl c => c
  | .inr _ => 99) else 99
def alw (n a t : Nat) : Int := if a < n then (match SH a with
  | .inr q => if q.1 = t then (q.2 : Int) else -1
  | .inl _ => -1) else -1
def aln (M : pM) (n a t : Nat) : Int := if a = 1002 ∧ t = 0 then M 1003 0 else if (a = 1000 ∨ a = 1001) ∧ t = 0 then 8 else alw n a t
def tgv (ty : FieldType) (x : Int) : pv := match ty with
  | .long => vl x
  | .object _ => vr x.toNat
  | .array _ => vr x.toNat
  | _ => vi x
/-- a field of a type takes a value as a number -/
def utg (ty : FieldType) (v : pv) (x : Int) : Prop := match ty with
  | .long => v = vl x
  | .object _ => ∃ k, v = vr k ∧ x = (k : Int)
  | .array _ => ∃ k, v = vr k ∧ x = (k : Int)
  | .boolean => v = vi x ∧ (x = 0 ∨ x = 1)
  | .int => v = vi x
  | _ => False
abbrev jC : Type := Jvm.ClassFile.Cond
def cnd (c : jC) (x y : Int) : Prop := match c with
  | .eq => x = y
  | .ne => ¬ x = y
  | .lt => x < y
  | .ge => y ≤ x
  | .gt => y < x
  | .le => x ≤ y
def mo (O : pO) (i : Nat) (a : List pv) (n : Nat) (M : pM) (Q : pQ) : Prop := ∃ Q0, O i a n M Q0 ∧ ∀ r M', Q0 r M' → Q r M'
def catv (v : pv) : Nat := match v with
  | .inr (.inl _) => 2
  | _ => 1
def stk (S : List pv) : Nat := (S.map catv).sum
def clr (o : Option pv) : Option pv := match o with
  | some (.inr (.inl _)) => none
  | x => x
/-- a long whose second half is written over is gone -/
def kil (L : pL) (k : Nat) : pL := match k with
  | 0 => L
  | m + 1 => L.set m (clr (L.getD m none))
def psh (rt : Option FieldType) (r : Option pv) (S S' : List pv) : Prop := match rt with
  | none => r = none ∧ S' = S
  | some .long => ∃ x, r = some (vl x) ∧ S' = vl x :: S
  | some .int => ∃ x, r = some (vi x) ∧ S' = vi x :: S
  | some .boolean => ∃ x, r = some (vi x) ∧ S' = vi x :: S
  | some .char => ∃ x, r = some (vi x) ∧ S' = vi x :: S
  | some .byte => ∃ x, r = some (vi x) ∧ S' = vi x :: S
  | _ => False
def rok (rt : Option FieldType) (x : Int) : Prop := match rt with
  | some .int => True
  | some .boolean => x = 0 ∨ x = 1
  | some .char => 0 ≤ x ∧ x ≤ 65535
  | some .byte => -128 ≤ x ∧ x ≤ 127
  | _ => False
def mth (i : Nat) : Nat := if (mY i).cls = "java/lang/Math" then (if (mY i).name = "max" then 1 else if (mY i).name = "min" then 2 else if (mY i).name = "abs" then 3 else 4) else 0
def iop (i : Instr) : Option (Int → Int → Int) := match i with
  | .iadd => some (fun a b => w32 (a + b))
  | .isub => some (fun a b => w32 (a - b))
  | .imul => some (fun a b => w32 (a * b))
  | .iand => some (fun a b => (Int32.ofInt a &&& Int32.ofInt b).toInt)
  | .ior => some (fun a b => (Int32.ofInt a ||| Int32.ofInt b).toInt)
  | .ixor => some (fun a b => (Int32.ofInt a ^^^ Int32.ofInt b).toInt)
  | .ishl => some (fun a b => (Int32.ofInt a <<< (Int32.ofInt b &&& 31)).toInt)
  | .ishr => some (fun a b => (Int32.ofInt a >>> (Int32.ofInt b &&& 31)).toInt)
  | .iushr => some (fun a b => ((Int32.ofInt a).toUInt32 >>> ((Int32.ofInt b).toUInt32 &&& Int32.toUInt32 31)).toInt32.toInt)
  | _ => none
def lop (i : Instr) : Option (Int → Int → Int) := match i with
  | .ladd => some (fun a b => (Int64.ofInt a + Int64.ofInt b).toInt)
  | .lsub => some (fun a b => (Int64.ofInt a - Int64.ofInt b).toInt)
  | .lmul => some (fun a b => (Int64.ofInt a * Int64.ofInt b).toInt)
  | .land => some (fun a b => (Int64.ofInt a &&& Int64.ofInt b).toInt)
  | .lor => some (fun a b => (Int64.ofInt a ||| Int64.ofInt b).toInt)
  | .lxor => some (fun a b => (Int64.ofInt a ^^^ Int64.ofInt b).toInt)
  | _ => none
/-- the stack behind an instruction that touches nothing else -/
def pur (j : Nat) (i : Instr) (len : Nat) (L : pL) (S S' : List pv) : Prop := match i with
  | .iconst v => len = 1 ∧ r32 v ∧ S' = vi v :: S
  | .bipush v => len = 2 ∧ (-128 ≤ v ∧ v ≤ 127) ∧ S' = vi v :: S
  | .sipush v => len = 3 ∧ (-32768 ≤ v ∧ v ≤ 32767) ∧ S' = vi v :: S
  | .lconst v => len = 1 ∧ S' = vl (v : Nat) :: S
  | .ldc ix => len = 2 ∧ ∃ q ∈ cnL, q.1 = mO j ∧ q.2.1 = ix ∧ S' = vi q.2.2.1 :: S
  | .ldc_w ix => len = 3 ∧ ∃ q ∈ cnL, q.1 = mO j ∧ q.2.1 = ix ∧ S' = vi q.2.2.1 :: S
  | .ldc2_w ix => len = 3 ∧ ∃ q ∈ clnL, q.1 = mO j ∧ q.2.1 = ix ∧ S' = vl q.2.2.1 :: S
  | .iload k => len = 2 ∧ ∃ x, L[k]? = some (some (vi x)) ∧ S' = vi x :: S
  | .iload_n k => len = 1 ∧ ∃ x, L[(k : Nat)]? = some (some (vi x)) ∧ S' = vi x :: S
  | .lload k => len = 2 ∧ ∃ x, L[k]? = some (some (vl x)) ∧ S' = vl x :: S
  | .lload_n k => len = 1 ∧ ∃ x, L[(k : Nat)]? = some (some (vl x)) ∧ S' = vl x :: S
  | .aload k => len = 2 ∧ ∃ x, L[k]? = some (some (vr x)) ∧ S' = vr x :: S
  | .aload_n k => len = 1 ∧ ∃ x, L[(k : Nat)]? = some (some (vr x)) ∧ S' = vr x :: S
  | .dup => len = 1 ∧ ∃ v S0, S = v :: S0 ∧ catv v = 1 ∧ S' = v :: v :: S0
  | .pop => len = 1 ∧ ∃ v S0, S = v :: S0 ∧ catv v = 1 ∧ S' = S0
  | .dup2 => len = 1 ∧ ∃ v u S0, S = v :: u :: S0 ∧ catv v = 1 ∧ catv u = 1 ∧ S' = v :: u :: v :: u :: S0
  | .ineg => len = 1 ∧ ∃ a S0, S = vi a :: S0 ∧ S' = vi (w32 (-a)) :: S0
  | .i2l => len = 1 ∧ ∃ a S0, S = vi a :: S0 ∧ S' = vl a :: S0
  | .l2i => len = 1 ∧ ∃ a S0, S = vl a :: S0 ∧ S' = vi (Int64.ofInt a).toInt32.toInt :: S0
  | .i2b => len = 1 ∧ ∃ a S0, S = vi a :: S0 ∧ S' = vi (w8 a) :: S0
  | .i2c => len = 1 ∧ ∃ a S0, S = vi a :: S0 ∧ S' = vi ((Int32.ofInt a).toUInt32 % 65536).toInt32.toInt :: S0
  | .idiv => len = 1 ∧ ∃ a b S0, S = vi b :: vi a :: S0 ∧ ¬ b = 0 ∧ S' = vi (w32 (a.tdiv b)) :: S0
  | .irem => len = 1 ∧ ∃ a b S0, S = vi b :: vi a :: S0 ∧ ¬ b = 0 ∧ S' = vi (a.tmod b) :: S0
  | .lcmp => len = 1 ∧ ∃ a b S0, S = vl b :: vl a :: S0 ∧ S' = vi (if b < a then 1 else if a = b then 0 else -1) :: S0
  | .lshl => len = 1 ∧ ∃ a b S0, S = vi b :: vl a :: S0 ∧ S' = vl (Int64.ofInt a <<< ((Int32.ofInt b).toInt64 &&& 63)).toInt :: S0
  | .lshr => len = 1 ∧ ∃ a b S0, S = vi b :: vl a :: S0 ∧ S' = vl (Int64.ofInt a >>> ((Int32.ofInt b).toInt64 &&& 63)).toInt :: S0
  | .lushr => len = 1 ∧ ∃ a b S0, S = vi b :: vl a :: S0 ∧ S' = vl ((Int64.ofInt a).toUInt64 >>> ((Int32.ofInt b).toInt64.toUInt64 &&& Int64.toUInt64 63)).toInt64.toInt :: S0
  | _ => len = 1 ∧ ((∃ f a b S0, iop i = some f ∧ S = vi b :: vi a :: S0 ∧ S' = vi (f a b) :: S0) ∨ ∃ f a b S0, lop i = some f ∧ S = vl b :: vl a :: S0 ∧ S' = vl (f a b) :: S0)
/-- the locals and the stack behind a store -/
def sto (i : Instr) (len : Nat) (L L' : pL) (S S' : List pv) : Prop := match i with
  | .istore k => len = 2 ∧ ∃ x, S = vi x :: S' ∧ k < L.length ∧ L' = (kil L k).set k (some (vi x))
  | .istore_n k => len = 1 ∧ ∃ x, S = vi x :: S' ∧ (k : Nat) < L.length ∧ L' = (kil L k).set k (some (vi x))
  | .astore k => len = 2 ∧ ∃ x, S = vr x :: S' ∧ k < L.length ∧ L' = (kil L k).set k (some (vr x))
  | .astore_n k => len = 1 ∧ ∃ x, S = vr x :: S' ∧ (k : Nat) < L.length ∧ L' = (kil L k).set k (some (vr x))
  | .lstore k => len = 2 ∧ ∃ x, S = vl x :: S' ∧ k + 1 < L.length ∧ L' = ((kil L k).set k (some (vl x))).set (k + 1) none
  | .lstore_n k => len = 1 ∧ ∃ x, S = vl x :: S' ∧ (k : Nat) + 1 < L.length ∧ L' = ((kil L k).set k (some (vl x))).set (k + 1) none
  | .iinc k c => len = 3 ∧ r32 c ∧ ∃ x, L[k]? = some (some (vi x)) ∧ S' = S ∧ L' = (kil L k).set k (some (vi (w32 (x + c))))
  | _ => False
def atg (t : ArrayType) : Nat := match t with
  | .long => 1
  | .byte => 2
  | .boolean => 3
  | _ => 0
def sx (O : pO) (j n0 : Nat) (Q : pQ) (P : pP) (pc : Nat) (L : pL) (S : List pv) (n : Nat) (M : pM) (i : Instr) (len : Nat) : Prop := match i with
  | .istore _ => ∃ L' S', sto i len L L' S S' ∧ P (pc + len) L' S' n M
  | .istore_n _ => ∃ L' S', sto i len L L' S S' ∧ P (pc + len) L' S' n M
  | .astore _ => ∃ L' S', sto i len L L' S S' ∧ P (pc + len) L' S' n M
  | .astore_n _ => ∃ L' S', sto i len L L' S S' ∧ P (pc + len) L' S' n M
  | .lstore _ => ∃ L' S', sto i len L L' S S' ∧ P (pc + len) L' S' n M
  | .lstore_n _ => ∃ L' S', sto i len L L' S S' ∧ P (pc + len) L' S' n M
  | .iinc _ _ => ∃ L' S', sto i len L L' S S' ∧ P (pc + len) L' S' n M
  | .ifCond c off => len = 3 ∧ ∃ x S' tgt, S = vi x :: S' ∧ (pc : Int) + off = (tgt : Nat) ∧ (cnd c x 0 → P tgt L S' n M) ∧ (¬ cnd c x 0 → P (pc + 3) L S' n M)
  | .if_icmp c off => len = 3 ∧ ∃ x y S' tgt, S = vi y :: vi x :: S' ∧ (pc : Int) + off = (tgt : Nat) ∧ (cnd c x y → P tgt L S' n M) ∧ (¬ cnd c x y → P (pc + 3) L S' n M)
  | .goto off => len = 3 ∧ ∃ tgt : Nat, (pc : Int) + off = (tgt : Nat) ∧ P tgt L S n M
  | .tableswitch d lo hi offs => ∃ x S', S = vi x :: S' ∧ (∀ tgt : Nat, (x < lo ∨ hi < x) → (pc : Int) + d = tgt → P tgt L S' n M) ∧ (∃ t : Nat, (pc : Int) + d = t) ∧
      ∀ k : Nat, x = lo + k → x ≤ hi → ∃ off, offs[k]? = some off ∧ ∃ tgt : Nat, (pc : Int) + off = tgt ∧ P tgt L S' n M
  | .lookupswitch d ps => (ps.toList.zip (ps.toList.drop 1)).all (fun (a, next) => a.1 < next.1) = true ∧ ∃ x S', S = vi x :: S' ∧ ∃ tgt : Nat, (pc : Int) + Op.lookupswitch.offset ps.toList d x = tgt ∧ P tgt L S' n M
  | .getfield ix => len = 3 ∧ ∃ q ∈ fldL, q.1 = mO j ∧ q.2.1 = ix ∧ ∃ a S', S = vr (a + 1) :: S' ∧ ob n a = q.2.2.1 ∧ P (pc + 3) L (tgv (tyA q.2.2.1 q.2.2.2.1) (M a q.2.2.2.1) :: S') n M
  | .putfield ix => len = 3 ∧ ∃ q ∈ fldL, q.1 = mO j ∧ q.2.1 = ix ∧ ((cT q.2.2.1 q.2.2.2.1).2.2.2 = false ∨ ((mY j).name = "<init>" ∧ q.2.2.1 = mO j ∧ q.2.2.2.2.2 = 0)) ∧ ∃ a v x S', S = v :: vr (a + 1) :: S' ∧ ob n a = q.2.2.1 ∧ utg (tyA q.2.2.1 q.2.2.2.1) v x ∧ P (pc + 3) L S' n (st M a q.2.2.2.1 x)
  | .getstatic ix => len = 3 ∧ ∃ q ∈ gsL, q.1 = mO j ∧ q.2.1 = ix ∧ P (pc + 3) L (vr (1001 + q.2.2.1) :: S) n M
  | .iaload => len = 1 ∧ ∃ x a S', S = vi x :: vr (a + 1) :: S' ∧ 0 ≤ x ∧ x < aln M n a 0 ∧ P (pc + 1) L (vi (M a x.toNat) :: S') n M
  | .laload => len = 1 ∧ ∃ x a S', S = vi x :: vr (a + 1) :: S' ∧ 0 ≤ x ∧ x < alw n a 1 ∧ P (pc + 1) L (vl (M a x.toNat) :: S') n M
  | .baload => len = 1 ∧ ∃ x a S', S = vi x :: vr (a + 1) :: S' ∧ 0 ≤ x ∧ (x < alw n a 2 ∨ x < alw n a 3) ∧ P (pc + 1) L (vi (M a x.toNat) :: S') n M
  | .iastore => len = 1 ∧ ∃ v x a S', S = vi v :: vi x :: vr (a + 1) :: S' ∧ 0 ≤ x ∧ x < alw n a 0 ∧ P (pc + 1) L S' n (st M a x.toNat v)
  | .lastore => len = 1 ∧ ∃ v x a S', S = vl v :: vi x :: vr (a + 1) :: S' ∧ 0 ≤ x ∧ x < alw n a 1 ∧ P (pc + 1) L S' n (st M a x.toNat v)
  | .bastore => len = 1 ∧ ∃ v x a S', S = vi v :: vi x :: vr (a + 1) :: S' ∧ 0 ≤ x ∧ ((x < alw n a 2 ∧ P (pc + 1) L S' n (st M a x.toNat (w8 v))) ∨ (x < alw n a 3 ∧ (v = 0 ∨ v = 1) ∧ P (pc + 1) L S' n (st M a x.toNat v)))
  | .arraylength => len = 1 ∧ ∃ a S' t, S = vr (a + 1) :: S' ∧ 0 ≤ aln M n a t ∧ P (pc + 1) L (vi (aln M n a t) :: S') n M
  | .newarray t => len = 2 ∧ ∃ x S', S = vi x :: S' ∧ n < NCELL ∧ n + 1 ≤ n0 + mC j ∧ SH n = .inr (atg t, x.toNat) ∧ (t = .int ∨ t = .long ∨ t = .byte ∨ t = .boolean) ∧ 0 ≤ x ∧ x ≤ 1000000 ∧ P (pc + 2) L (vr (n + 1) :: S') (n + 1) (zr M n)
  | .new ix => len = 3 ∧ ∃ q ∈ newL, q.1 = mO j ∧ q.2.1 = ix ∧ n < NCELL ∧ n + 1 ≤ n0 + mC j ∧ SH n = .inl q.2.2.1 ∧ P (pc + 3) L (vr (n + 1) :: S) (n + 1) (zr M n)
  | .invokevirtual ix => len = 3 ∧ ∃ q ∈ calL, q.1 = mO j ∧ q.2.1 = ix ∧ q.2.2.1 = 0 ∧ ∃ As b S', S = As.reverse ++ vr (b + 1) :: S' ∧ As.length = mA q.2.2.2.1 ∧ ob n b = mO q.2.2.2.1 ∧ stk S' ≤ 8 ∧ mC q.2.2.2.1 = 0 ∧ mo O q.2.2.2.1 (vr (b + 1) :: As) n M (fun r M' => ∃ S'', psh (mR q.2.2.2.1) r S' S'' ∧ P (pc + 3) L S'' n M')
  | .invokestatic ix => len = 3 ∧ ((∃ q ∈ calL, q.1 = mO j ∧ q.2.1 = ix ∧ q.2.2.1 = 1 ∧
      ((mth q.2.2.2.1 = 0 ∧ ∃ As S', S = As.reverse ++ S' ∧ As.length = mA q.2.2.2.1 ∧ stk S' ≤ 8 ∧ mC q.2.2.2.1 = 0 ∧ mo O q.2.2.2.1 As n M (fun r M' => ∃ S'', psh (mR q.2.2.2.1) r S' S'' ∧ P (pc + 3) L S'' n M')) ∨
       (mth q.2.2.2.1 = 1 ∧ ∃ a b S', S = vi b :: vi a :: S' ∧ stk S' ≤ 8 ∧ P (pc + 3) L (vi (if a < b then b else a) :: S') n M) ∨
       (mth q.2.2.2.1 = 2 ∧ ∃ a b S', S = vi b :: vi a :: S' ∧ stk S' ≤ 8 ∧ P (pc + 3) L (vi (if b < a then b else a) :: S') n M) ∨
       (mth q.2.2.2.1 = 3 ∧ ∃ a S', S = vi a :: S' ∧ stk S' ≤ 8 ∧ P (pc + 3) L (vi (if 0 ≤ a then a else w32 (0 - a)) :: S') n M))) ∨
      ((∀ q ∈ calL, ¬ (q.1 = mO j ∧ q.2.1 = ix)) ∧ ∃ q ∈ acpL, q.1 = mO j ∧ q.2.1 = ix ∧ ∃ a b x y k S', S = vi k :: vi y :: vr (b + 1) :: vi x :: vr (a + 1) :: S' ∧ stk S' ≤ 8 ∧ 0 ≤ x ∧ 0 ≤ y ∧ 0 ≤ k ∧ x + k ≤ alw n a 0 ∧ y + k ≤ alw n b 0 ∧ P (pc + 3) L S' n (cpy M a b x.toNat y.toNat k.toNat)))
  | .invokespecial ix => len = 3 ∧ ((∃ q ∈ obiL, q.1 = mO j ∧ q.2.1 = ix ∧ ∃ b S', S = vr (b + 1) :: S' ∧ stk S' ≤ 8 ∧ P (pc + 3) L S' n M) ∨
      ∃ q ∈ calL, q.1 = mO j ∧ q.2.1 = ix ∧ q.2.2.1 = 2 ∧ ∃ As b S', S = As.reverse ++ vr (b + 1) :: S' ∧ As.length = mA q.2.2.2.1 ∧ ob n b = mO q.2.2.2.1 ∧ stk S' ≤ 8 ∧ n + mC q.2.2.2.1 ≤ n0 + mC j ∧ mR q.2.2.2.1 = none ∧ mo O q.2.2.2.1 (vr (b + 1) :: As) n M (fun r M' => r = none ∧ P (pc + 3) L S' (n + mC q.2.2.2.1) M'))
  | .ireturn => len = 1 ∧ n = n0 + mC j ∧ ∃ x, S = [vi x] ∧ rok (mR j) x ∧ Q (some (vi x)) M
  | .lreturn => len = 1 ∧ n = n0 + mC j ∧ mR j = some .long ∧ ∃ x, S = [vl x] ∧ Q (some (vl x)) M
  | .return_ => len = 1 ∧ n = n0 + mC j ∧ mR j = none ∧ S = [] ∧ Q none M
  | _ => ∃ S', pur j i len L S S' ∧ P (pc + len) L S' n M
/-- instructions on the two texts: cells 1004, 1006 are the texts, 1005, 1007 their bytes -/
def sy (O : pO) (j : Nat) (P : pP) (pc : Nat) (L : pL) (S : List pv) (n : Nat) (M : pM) (i : Instr) (len : Nat) : Prop := match i with
  | .ldc ix => len = 2 ∧ ∃ q ∈ strL, q.1 = mO j ∧ q.2.1 = ix ∧ P (pc + 2) L (vr (1005 + 2 * q.2.2.1) :: S) n M
  | .getfield ix => len = 3 ∧ ∃ q ∈ sfL, q.1 = mO j ∧ q.2.1 = ix ∧ ∃ i S', i < 2 ∧ S = vr (1005 + 2 * i) :: S' ∧ P (pc + 3) L ((if q.2.2.1 = 0 then vr (1006 + 2 * i) else vi 0) :: S') n M
  | .getstatic ix => len = 3 ∧ ∃ q ∈ gbL, q.1 = mO j ∧ q.2.1 = ix ∧ P (pc + 3) L ((if q.2.2.1 = 0 then vi 1 else vr (M 1009 0).toNat) :: S) n M
  | .baload => len = 1 ∧ ∃ x i S', i < 2 ∧ S = vi x :: vr (1006 + 2 * i) :: S' ∧ 0 ≤ x ∧ x < (slen i : Nat) ∧ P (pc + 1) L (vi (M (1005 + 2 * i) x.toNat) :: S') n M
  | .arraylength => len = 1 ∧ ∃ i S', i < 2 ∧ S = vr (1006 + 2 * i) :: S' ∧ P (pc + 1) L (vi (slen i : Nat) :: S') n M
  | .invokevirtual ix => len = 3 ∧ ∃ q ∈ calL, q.1 = mO j ∧ q.2.1 = ix ∧ q.2.2.1 = 0 ∧ ∃ As i S', i < 2 ∧ S = As.reverse ++ vr (1005 + 2 * i) :: S' ∧ As.length = mA q.2.2.2.1 ∧ mO q.2.2.2.1 = 14 ∧ stk S' ≤ 8 ∧ mC q.2.2.2.1 = 0 ∧ mo O q.2.2.2.1 (vr (1005 + 2 * i) :: As) n M (fun r M' => ∃ S'', psh (mR q.2.2.2.1) r S' S'' ∧ P (pc + 3) L S'' n M')
  | _ => False
def stp (O : pO) (j n0 : Nat) (Q : pQ) (P : pP) : pP := fun pc L S n M => ∃ i len, decode (mB j) pc = .ok (i, len) ∧ (sx O j n0 Q P pc L S n M i len ∨ sy O j P pc L S n M i len)
/-- the least predicate that is closed under the steps: from here the method comes to an end that Q takes -/
def J (O : pO) (j n0 : Nat) (Q : pQ) (pc : Nat) (L : pL) (S : List pv) (n : Nat) (M : pM) : Prop :=
  ∀ P : pP, (∀ pc L S n M, stp O j n0 Q P pc L S n M → P pc L S n M) → P pc L S n M
end
section
theorem mo_mono {O : pO} {i : Nat} {a : List pv} {n : Nat} {M : pM} {Q Q' : pQ} (h : ∀ r M', Q r M' → Q' r M') (hm : mo O i a n M Q) : mo O i a n M Q' := by
  obtain ⟨Q0, h1, h2⟩ := hm
  exact ⟨Q0, h1, fun r M' h3 => h r M' (h2 r M' h3)⟩
set_option maxHeartbeats 4000000 in
theorem sx_mono {O : pO} {j n0 : Nat} {Q : pQ} {P P' : pP} (h : ∀ pc L S n M, P pc L S n M → P' pc L S n M) {pc : Nat} {L : pL} {S : List pv} {n : Nat} {M : pM} {i : Instr} {len : Nat} (hs : sx O j n0 Q P pc L S n M i len) : sx O j n0 Q P' pc L S n M i len := by
  cases i
  case istore k => obtain ⟨L', S', h1, h2⟩ := hs; exact ⟨L', S', h1, h _ _ _ _ _ h2⟩
  case istore_n k => obtain ⟨L', S', h1, h2⟩ := hs; exact ⟨L', S', h1, h _ _ _ _ _ h2⟩
  case astore k => obtain ⟨L', S', h1, h2⟩ := hs; exact ⟨L', S', h1, h _ _ _ _ _ h2⟩
  case astore_n k => obtain ⟨L', S', h1, h2⟩ := hs; exact ⟨L', S', h1, h _ _ _ _ _ h2⟩
  case lstore k => obtain ⟨L', S', h1, h2⟩ := hs; exact ⟨L', S', h1, h _ _ _ _ _ h2⟩
  case lstore_n k => obtain ⟨L', S', h1, h2⟩ := hs; exact ⟨L', S', h1, h _ _ _ _ _ h2⟩
  case iinc k c => obtain ⟨L', S', h1, h2⟩ := hs; exact ⟨L', S', h1, h _ _ _ _ _ h2⟩
  case ifCond c off => obtain ⟨h0, x, S', t, h1, h2, h3, h4⟩ := hs; exact ⟨h0, x, S', t, h1, h2, fun q => h _ _ _ _ _ (h3 q), fun q => h _ _ _ _ _ (h4 q)⟩
  case if_icmp c off => obtain ⟨h0, x, y, S', t, h1, h2, h3, h4⟩ := hs; exact ⟨h0, x, y, S', t, h1, h2, fun q => h _ _ _ _ _ (h3 q), fun q => h _ _ _ _ _ (h4 q)⟩
  case goto off => obtain ⟨h0, t, h1, h2⟩ := hs; exact ⟨h0, t, h1, h _ _ _ _ _ h2⟩
  case tableswitch d lo hi offs =>
    obtain ⟨x, S', h1, h2, h3, h4⟩ := hs
    refine ⟨x, S', h1, fun t q1 q2 => h _ _ _ _ _ (h2 t q1 q2), h3, fun k q1 q2 => ?_⟩
    obtain ⟨off, e1, t, e2, e3⟩ := h4 k q1 q2
    exact ⟨off, e1, t, e2, h _ _ _ _ _ e3⟩
  case lookupswitch d ps => obtain ⟨h0, x, S', h1, t, h2, h3⟩ := hs; exact ⟨h0, x, S', h1, t, h2, h _ _ _ _ _ h3⟩
  case getfield ix => obtain ⟨h0, q, hq, e1, e2, a, S', e3, e4, e5⟩ := hs; exact ⟨h0, q, hq, e1, e2, a, S', e3, e4, h _ _ _ _ _ e5⟩
  case putfield ix => obtain ⟨h0, q, hq, e1, e2, e0, a, v, x, S', e3, e4, e6, e5⟩ := hs; exact ⟨h0, q, hq, e1, e2, e0, a, v, x, S', e3, e4, e6, h _ _ _ _ _ e5⟩
  case getstatic ix => obtain ⟨h0, q, hq, e1, e2, e5⟩ := hs; exact ⟨h0, q, hq, e1, e2, h _ _ _ _ _ e5⟩
  case iaload => obtain ⟨h0, x, a, S', e1, e2, e3, e5⟩ := hs; exact ⟨h0, x, a, S', e1, e2, e3, h _ _ _ _ _ e5⟩
  case laload => obtain ⟨h0, x, a, S', e1, e2, e3, e5⟩ := hs; exact ⟨h0, x, a, S', e1, e2, e3, h _ _ _ _ _ e5⟩
  case baload => obtain ⟨h0, x, a, S', e1, e2, e3, e5⟩ := hs; exact ⟨h0, x, a, S', e1, e2, e3, h _ _ _ _ _ e5⟩
  case iastore => obtain ⟨h0, v, x, a, S', e1, e2, e3, e5⟩ := hs; exact ⟨h0, v, x, a, S', e1, e2, e3, h _ _ _ _ _ e5⟩
  case lastore => obtain ⟨h0, v, x, a, S', e1, e2, e3, e5⟩ := hs; exact ⟨h0, v, x, a, S', e1, e2, e3, h _ _ _ _ _ e5⟩
  case bastore =>
    obtain ⟨h0, v, x, a, S', e1, e2, e3⟩ := hs
    refine ⟨h0, v, x, a, S', e1, e2, ?_⟩
    rcases e3 with ⟨e3, e5⟩ | ⟨e3, e4, e5⟩
    · exact Or.inl ⟨e3, h _ _ _ _ _ e5⟩
    · exact Or.inr ⟨e3, e4, h _ _ _ _ _ e5⟩
  case arraylength => obtain ⟨h0, a, S', t, e1, e2, e5⟩ := hs; exact ⟨h0, a, S', t, e1, e2, h _ _ _ _ _ e5⟩
  case newarray t => obtain ⟨h0, x, S', e1, e2, e3, e4, e6, e7, e8, e5⟩ := hs; exact ⟨h0, x, S', e1, e2, e3, e4, e6, e7, e8, h _ _ _ _ _ e5⟩
  case new ix => obtain ⟨h0, q, hq, e1, e2, e3, e4, e6, e5⟩ := hs; exact ⟨h0, q, hq, e1, e2, e3, e4, e6, h _ _ _ _ _ e5⟩
  case invokevirtual ix =>
    obtain ⟨h0, q, hq, e1, e2, e3, As, b, S', e4, e5, e6, e7, e8, e9⟩ := hs
    refine ⟨h0, q, hq, e1, e2, e3, As, b, S', e4, e5, e6, e7, e8, mo_mono (fun r M' hh => ?_) e9⟩
    obtain ⟨S'', g1, g2⟩ := hh
    exact ⟨S'', g1, h _ _ _ _ _ g2⟩
  case invokestatic ix =>
    obtain ⟨h0, hh⟩ := hs
    refine ⟨h0, ?_⟩
    rcases hh with ⟨q, hq, e1, e2, e3, hh⟩ | ⟨g0, q, hq, e1, e2, a, b, x, y, k, S', f1, f2, f3, f4, f5, f6, f7, f8⟩
    · refine Or.inl ⟨q, hq, e1, e2, e3, ?_⟩
      rcases hh with ⟨m, As, S', e4, e5, e7, e8, e9⟩ | ⟨m, a, b, S', e4, e5, e9⟩ | ⟨m, a, b, S', e4, e5, e9⟩ | ⟨m, a, S', e4, e5, e9⟩
      · refine Or.inl ⟨m, As, S', e4, e5, e7, e8, mo_mono (fun r M' hh => ?_) e9⟩
        obtain ⟨S'', g1, g2⟩ := hh
        exact ⟨S'', g1, h _ _ _ _ _ g2⟩
      · exact Or.inr (Or.inl ⟨m, a, b, S', e4, e5, h _ _ _ _ _ e9⟩)
      · exact Or.inr (Or.inr (Or.inl ⟨m, a, b, S', e4, e5, h _ _ _ _ _ e9⟩))
      · exact Or.inr (Or.inr (Or.inr ⟨m, a, S', e4, e5, h _ _ _ _ _ e9⟩))
    · exact Or.inr ⟨g0, q, hq, e1, e2, a, b, x, y, k, S', f1, f2, f3, f4, f5, f6, f7, h _ _ _ _ _ f8⟩
  case invokespecial ix =>
    obtain ⟨h0, hh⟩ := hs
    refine ⟨h0, ?_⟩
    rcases hh with ⟨q, hq, e1, e2, b, S', e3, e4, e5⟩ | ⟨q, hq, e1, e2, e3, As, b, S', e4, e5, e6, e7, e8, e9, e10⟩
    · exact Or.inl ⟨q, hq, e1, e2, b, S', e3, e4, h _ _ _ _ _ e5⟩
    · exact Or.inr ⟨q, hq, e1, e2, e3, As, b, S', e4, e5, e6, e7, e8, e9, mo_mono (fun r M' hh => ⟨hh.1, h _ _ _ _ _ hh.2⟩) e10⟩
  case ireturn => exact hs
  case lreturn => exact hs
  case return_ => exact hs
  all_goals (obtain ⟨S', h1, h2⟩ := hs; exact ⟨S', h1, h _ _ _ _ _ h2⟩)
theorem sy_mono {O : pO} {j : Nat} {P P' : pP} (h : ∀ pc L S n M, P pc L S n M → P' pc L S n M) {pc : Nat} {L : pL} {S : List pv} {n : Nat} {M : pM} {i : Instr} {len : Nat} (hs : sy O j P pc L S n M i len) : sy O j P' pc L S n M i len := by
  cases i
  case ldc ix => obtain ⟨h0, q, hq, e1, e2, e3⟩ := hs; exact ⟨h0, q, hq, e1, e2, h _ _ _ _ _ e3⟩
  case getfield ix => obtain ⟨h0, q, hq, e1, e2, i, S', e3, e4, e5⟩ := hs; exact ⟨h0, q, hq, e1, e2, i, S', e3, e4, h _ _ _ _ _ e5⟩
  case getstatic ix => obtain ⟨h0, q, hq, e1, e2, e3⟩ := hs; exact ⟨h0, q, hq, e1, e2, h _ _ _ _ _ e3⟩
  case baload => obtain ⟨h0, x, i, S', e1, e2, e3, e4, e5⟩ := hs; exact ⟨h0, x, i, S', e1, e2, e3, e4, h _ _ _ _ _ e5⟩
  case arraylength => obtain ⟨h0, i, S', e1, e2, e5⟩ := hs; exact ⟨h0, i, S', e1, e2, h _ _ _ _ _ e5⟩
  case invokevirtual ix =>
    obtain ⟨h0, q, hq, e1, e2, e3, As, i, S', e4, e5, e6, e7, e8, e9, e10⟩ := hs
    refine ⟨h0, q, hq, e1, e2, e3, As, i, S', e4, e5, e6, e7, e8, e9, mo_mono (fun r M' hh => ?_) e10⟩
    obtain ⟨S'', g1, g2⟩ := hh
    exact ⟨S'', g1, h _ _ _ _ _ g2⟩
  all_goals exact hs
theorem stp_mono {O : pO} {j n0 : Nat} {Q : pQ} {P P' : pP} (h : ∀ pc L S n M, P pc L S n M → P' pc L S n M) {pc : Nat} {L : pL} {S : List pv} {n : Nat} {M : pM} (hs : stp O j n0 Q P pc L S n M) : stp O j n0 Q P' pc L S n M := by
  obtain ⟨i, len, h1, h2⟩ := hs
  exact ⟨i, len, h1, h2.elim (fun q => Or.inl (sx_mono h q)) (fun q => Or.inr (sy_mono h q))⟩
theorem J_in {O : pO} {j n0 : Nat} {Q : pQ} {pc : Nat} {L : pL} {S : List pv} {n : Nat} {M : pM} (hs : stp O j n0 Q (J O j n0 Q) pc L S n M) : J O j n0 Q pc L S n M :=
  fun P hP => hP _ _ _ _ _ (stp_mono (fun _ _ _ _ _ hj => hj P hP) hs)
theorem J_eq {O : pO} {j n0 : Nat} {Q : pQ} {pc : Nat} {L : pL} {S : List pv} {n : Nat} {M : pM} : J O j n0 Q pc L S n M = stp O j n0 Q (J O j n0 Q) pc L S n M :=
  propext ⟨fun h => h _ (fun _ _ _ _ _ hs => stp_mono (fun _ _ _ _ _ hh => J_in hh) hs), J_in⟩
theorem J_of {O : pO} {j n0 : Nat} {Q : pQ} {pc : Nat} {L : pL} {S : List pv} {n : Nat} {M : pM} {i : Instr} {len : Nat} (hd : decode (mB j) pc = .ok (i, len)) (hy : ¬ sy O j (J O j n0 Q) pc L S n M i len) : J O j n0 Q pc L S n M = sx O j n0 Q (J O j n0 Q) pc L S n M i len := by
  rw [J_eq]
  refine propext ⟨fun h => ?_, fun h => ⟨i, len, hd, Or.inl h⟩⟩
  obtain ⟨i', len', h1, h2⟩ := h
  rw [hd] at h1
  cases h1
  exact h2.resolve_right hy
theorem J_sx {O : pO} {j n0 : Nat} {Q : pQ} {pc : Nat} {L : pL} {S : List pv} {n : Nat} {M : pM} {i : Instr} {len : Nat} (hd : decode (mB j) pc = .ok (i, len)) (h : sx O j n0 Q (J O j n0 Q) pc L S n M i len) : J O j n0 Q pc L S n M := J_in ⟨i, len, hd, Or.inl h⟩
theorem J_sy {O : pO} {j n0 : Nat} {Q : pQ} {pc : Nat} {L : pL} {S : List pv} {n : Nat} {M : pM} {i : Instr} {len : Nat} (hd : decode (mB j) pc = .ok (i, len)) (h : sy O j (J O j n0 Q) pc L S n M i len) : J O j n0 Q pc L S n M := J_in ⟨i, len, hd, Or.inr h⟩
theorem J_mono {O : pO} {j n0 : Nat} {Q Q' : pQ} (hQ : ∀ r M, Q r M → Q' r M) {pc : Nat} {L : pL} {S : List pv} {n : Nat} {M : pM} (h : J O j n0 Q pc L S n M) : J O j n0 Q' pc L S n M := by
  refine h (J O j n0 Q') (fun pc L S n M hs => J_in ?_)
  obtain ⟨i, len, h1, h2⟩ := hs
  refine ⟨i, len, h1, ?_⟩
  cases i
  case ireturn =>
    refine h2.elim (fun h2 => Or.inl ?_) (fun h2 => h2.elim)
    obtain ⟨e1, e2, x, e3, e4, e5⟩ := h2; exact ⟨e1, e2, x, e3, e4, hQ _ _ e5⟩
  case lreturn =>
    refine h2.elim (fun h2 => Or.inl ?_) (fun h2 => h2.elim)
    obtain ⟨e1, e2, e3, x, e4, e5⟩ := h2; exact ⟨e1, e2, e3, x, e4, hQ _ _ e5⟩
  case return_ =>
    refine h2.elim (fun h2 => Or.inl ?_) (fun h2 => h2.elim)
    obtain ⟨e1, e2, e3, e4, e5⟩ := h2; exact ⟨e1, e2, e3, e4, hQ _ _ e5⟩
  all_goals exact h2
end
section
/-! ===== numbers ===== -/
theorem w32_r (z : Int) : r32 (w32 z) := by unfold r32 w32; omega
theorem w64_r (z : Int) : r64 (w64 z) := by unfold r64 w64; omega
theorem w8_r (z : Int) : r32 (w8 z) := by unfold r32 w8; omega
theorem w32_id {z : Int} (h : r32 z) : w32 z = z := by unfold r32 at h; unfold w32; omega
theorem i32_sz : (Int32.size : Nat) = 4294967296 := rfl
theorem i32_w (z : Int) : Int32.ofInt (w32 z) = Int32.ofInt z := by
  apply Int32.toInt_inj.mp
  rw [Int32.toInt_ofInt, Int32.toInt_ofInt]
  unfold w32
  simp only [Int.bmod, i32_sz]
  omega
theorem i32_t {z : Int} (h : r32 z) : (Int32.ofInt z).toInt = z := Int32.toInt_ofInt_of_le h.1 (by have := h.2; omega)
theorem i64_t {z : Int} (h : r64 z) : (Int64.ofInt z).toInt = z := Int64.toInt_ofInt_of_le h.1 (by have := h.2; omega)
theorem i32_r (x : Int32) : r32 x.toInt := ⟨Int32.le_toInt x, by have := Int32.toInt_lt x; omega⟩
theorem i64_r (x : Int64) : r64 x.toInt := ⟨Int64.le_toInt x, by have := Int64.toInt_lt x; omega⟩
theorem i32_lt {a b : Int} (ha : r32 a) (hb : r32 b) : Int32.ofInt a < Int32.ofInt b ↔ a < b := by rw [Int32.lt_iff_toInt_lt, i32_t ha, i32_t hb]
theorem i32_le {a b : Int} (ha : r32 a) (hb : r32 b) : Int32.ofInt a ≤ Int32.ofInt b ↔ a ≤ b := by rw [Int32.le_iff_toInt_le, i32_t ha, i32_t hb]
theorem i32_eq {a b : Int} (ha : r32 a) (hb : r32 b) : Int32.ofInt a = Int32.ofInt b ↔ a = b := by rw [← Int32.toInt_inj, i32_t ha, i32_t hb]
theorem r32_0 : r32 0 := by unfold r32; omega
theorem i32_add (a b : Int) : Int32.ofInt (w32 (a + b)) = Int32.ofInt a + Int32.ofInt b := by rw [i32_w, Int32.ofInt_add]
theorem i32_sub (a b : Int) : Int32.ofInt (w32 (a - b)) = Int32.ofInt a - Int32.ofInt b := by rw [i32_w, Int32.ofInt_sub]
theorem i32_mul (a b : Int) : Int32.ofInt (w32 (a * b)) = Int32.ofInt a * Int32.ofInt b := by rw [i32_w, Int32.ofInt_mul]
theorem i32_neg (a : Int) : Int32.ofInt (w32 (-a)) = -Int32.ofInt a := by rw [i32_w, Int32.ofInt_neg]
theorem i32_div {a b : Int} (ha : r32 a) (hb : r32 b) : Int32.ofInt (w32 (a.tdiv b)) = Int32.ofInt a / Int32.ofInt b := by
  rw [i32_w]
  apply Int32.toInt_inj.mp
  rw [Int32.toInt_ofInt, Int32.toInt_div, i32_t ha, i32_t hb]
theorem i32_rem {a b : Int} (ha : r32 a) (hb : r32 b) : Int32.ofInt (a.tmod b) = Int32.ofInt a - Int32.ofInt a / Int32.ofInt b * Int32.ofInt b := by
  rw [← i32_div ha hb, i32_w, Int.tmod_def, Int32.ofInt_sub, Int32.ofInt_mul, Int32.mul_comm]
theorem tmod_r {a b : Int} (ha : r32 a) (hb : r32 b) (h : ¬ b = 0) : r32 (a.tmod b) := by
  have h1 : (a.tmod b).natAbs ≤ a.natAbs := by rw [Int.natAbs_tmod]; exact Nat.mod_le _ _
  have h2 := Int.tmod_nonneg b (a := a)
  unfold r32 at *
  rcases Int.lt_or_le a 0 with h0 | h0
  · have h3 : -a.tmod b = (-a).tmod b := (Int.neg_tmod a b).symm
    have h4 := Int.tmod_nonneg b (a := -a) (by omega)
    omega
  · have := h2 h0
    omega
theorem i32_8 (a : Int) : Int32.ofInt (w8 a) = (Int32.ofInt a).toInt8.toInt32 := by
  apply Int32.toInt_inj.mp
  rw [Int32.toInt_ofInt, Int8.toInt_toInt32, Int32.toInt_toInt8, Int32.toInt_ofInt]
  unfold w8
  simp only [Int.bmod, i32_sz]
  omega
theorem i32_i64 {a : Int} (ha : r32 a) : Int64.ofInt a = (Int32.ofInt a).toInt64 := by
  apply Int64.toInt_inj.mp
  rw [Int32.toInt_toInt64, i32_t ha, i64_t ⟨by have := ha.1; omega, by have := ha.2; omega⟩]
theorem i32_cl {x : Int} (hx : r32 x) (h0 : 0 ≤ x) : (Int32.ofInt x).toNatClampNeg = x.toNat := by
  show (Int32.ofInt x).toInt.toNat = x.toNat
  rw [i32_t hx]
theorem vin {x : Int} {n : Nat} (hx : r32 x) (h0 : 0 ≤ x) (h1 : x < n) : vp_in (Int32.ofInt x) n := by
  rw [vp_in_iff, i32_t hx]
  exact ⟨h0, h1⟩
/-! ===== the world of cells ===== -/
abbrev pE : Type := va_G × (Nat → ClassId) × (Nat → Nat) × Nat
def cv (ad : Nat → Nat) (v : pv) : Value := match v with
  | .inl x => .int (Int32.ofInt x)
  | .inr (.inl x) => .long (Int64.ofInt x)
  | .inr (.inr 0) => .null
  | .inr (.inr (k + 1)) => .ref (ad k)
def fsO (E : pE) (c : Nat) (f : Nat → Int) : List Value := (List.range (cN c)).map (fun i => cv E.2.2.1 (tgv (tyA c i) (f i)))
def ceO (E : pE) (s : pS) (f : Nat → Int) : va_E := match s with
  | .inl c => .inr (c, fsO E c f)
  | .inr (t, len) => .inl (E.2.1 t, len, if t = 1 then .inr (.inl (fun i => Int64.ofInt (f i))) else .inl (fun i => Int32.ofInt (f i)))
def wsO (E : pE) (n : Nat) (M : pM) : va_W := (List.range n).map (fun k => (E.2.2.2 + k, ceO E (SH k) (M k)))
theorem wsO_at {E : pE} {n k : Nat} {M : pM} (h : k < n) : (wsO E n M)[k]? = some (E.2.2.2 + k, ceO E (SH k) (M k)) := by simp [wsO, h]
theorem wsO_set {E : pE} {n k : Nat} {M M' : pM} {e : va_E} (h : k < n) (ho : ∀ a, a ≠ k → M' a = M a) (he : e = ceO E (SH k) (M' k)) : (wsO E n M).set k (E.2.2.2 + k, e) = wsO E n M' := by
  apply List.ext_getElem?
  intro i
  by_cases hi : i = k
  · subst hi
    rw [wsO_at h, List.getElem?_set_self (by simp [wsO, h]), he]
  · rw [List.getElem?_set_ne (Ne.symm hi)]
    by_cases hn : i < n
    · rw [wsO_at hn, wsO_at hn, ho i hi]
    · simp [wsO, hn]
theorem wsO_succ {E : pE} {n : Nat} {M M' : pM} {e : va_E} (ho : ∀ a, a < n → M' a = M a) (he : e = ceO E (SH n) (M' n)) : wsO E n M ++ [(E.2.2.2 + n, e)] = wsO E (n + 1) M' := by
  have h : wsO E n M = wsO E n M' := by
    unfold wsO
    apply List.map_congr_left
    intro a ha
    rw [ho a (List.mem_range.mp ha)]
  rw [h]
  unfold wsO
  rw [List.range_succ, List.map_append, he]
  rfl
theorem wsO_D (E : pE) (n : Nat) (M : pM) : va_D (fun q => E.2.2.2 ≤ q) (wsO E n M) := by
  have at' : ∀ (i : Nat) (p : Nat × va_E), (wsO E n M)[i]? = some p → p.1 = E.2.2.2 + i := by
    intro i p h
    by_cases hn : i < n
    · rw [wsO_at hn] at h
      cases h
      rfl
    · simp [wsO, hn] at h
  refine ⟨fun i j p q hp hq hpq => ?_, fun k q hk => ?_⟩
  · have := at' i p hp
    have := at' j q hq
    omega
  · show E.2.2.2 ≤ q.1
    have := at' k q hk
    omega
theorem fsO_get {E : pE} {c k : Nat} {f : Nat → Int} (h : k < cN c) : (fsO E c f)[k]? = some (cv E.2.2.1 (tgv (tyA c k) (f k))) := by simp [fsO, h]
theorem fsO_len {E : pE} {c : Nat} {f : Nat → Int} : (fsO E c f).length = cN c := by simp [fsO]
theorem fsO_set {E : pE} {c k : Nat} {f f' : Nat → Int} {v : Value} (h : k < cN c) (ho : ∀ a, a ≠ k → f' a = f a) (hv : v = cv E.2.2.1 (tgv (tyA c k) (f' k))) : (fsO E c f).set k v = fsO E c f' := by
  apply List.ext_getElem?
  intro i
  by_cases hi : i = k
  · subst hi
    rw [fsO_get h, List.getElem?_set_self (by rw [fsO_len]; exact h), hv]
  · rw [List.getElem?_set_ne (Ne.symm hi)]
    by_cases hn : i < cN c
    · rw [fsO_get hn, fsO_get hn, ho i hi]
    · simp [fsO, hn]
/-- what a slot may hold -/
def rTy (ty : FieldType) (x : Int) : Prop := match ty with
  | .long => r64 x
  | .object _ => 0 ≤ x ∧ x ≤ 5000
  | .array _ => 0 ≤ x ∧ x ≤ 5000
  | _ => r32 x
def slT (k i : Nat) : FieldType := match SH k with
  | .inl c => if c = 99 then .int else tyA c i
  | .inr q => if q.1 = 1 then .long else .int
def wfM (M : pM) : Prop := ∀ k i, rTy (slT k i) (M k i)
def wfv (v : pv) : Prop := match v with
  | .inl x => r32 x
  | .inr (.inl x) => r64 x
  | .inr (.inr k) => k ≤ 5000
def wfS (S : List pv) : Prop := ∀ v ∈ S, wfv v
def wfL (L : pL) : Prop := ∀ v, some v ∈ L → wfv v
theorem tgv_wf {ty : FieldType} {x : Int} (h : rTy ty x) : wfv (tgv ty x) := by
  cases ty <;> first | exact h | (show x.toNat ≤ 5000; have := h.2; omega)
theorem utg_wf {ty : FieldType} {v : pv} {x : Int} (h : utg ty v x) (hv : wfv v) : rTy ty x := by
  cases ty <;> simp only [utg] at h
  case boolean => obtain ⟨rfl, -⟩ := h; exact hv
  case int => subst h; exact hv
  case long => subst h; exact hv
  case object => obtain ⟨k, rfl, rfl⟩ := h; have : k ≤ 5000 := hv; exact ⟨by omega, by omega⟩
  case array => obtain ⟨k, rfl, rfl⟩ := h; have : k ≤ 5000 := hv; exact ⟨by omega, by omega⟩
theorem utg_tgv {ty : FieldType} {v : pv} {x : Int} (h : utg ty v x) : tgv ty x = v := by
  cases ty <;> simp only [utg] at h
  case boolean => exact h.1.symm
  case int => exact h.symm
  case long => exact h.symm
  case object => obtain ⟨k, rfl, rfl⟩ := h; rfl
  case array => obtain ⟨k, rfl, rfl⟩ := h; rfl
theorem st_row {M : pM} {k i : Nat} {v : Int} {a : Nat} (h : a ≠ k) : st M k i v a = M a := by funext b; simp [st, h]
theorem st_at {M : pM} {k i : Nat} {v : Int} : st M k i v k i = v := by simp [st]
theorem st_ne {M : pM} {k i : Nat} {v : Int} {b : Nat} (h : b ≠ i) : st M k i v k b = M k b := by simp [st, h]
theorem st_wf {M : pM} {k i : Nat} {v : Int} (hM : wfM M) (hv : rTy (slT k i) v) : wfM (st M k i v) := by
  intro a b
  unfold st
  split
  · rename_i h; rw [h.1, h.2]; exact hv
  · exact hM a b
theorem zr_row {M : pM} {k a : Nat} (h : a ≠ k) : zr M k a = M a := by funext b; simp [zr, h]
theorem rTy_0 (ty : FieldType) : rTy ty 0 := by cases ty <;> simp [rTy, r32, r64]
theorem zr_wf {M : pM} {k : Nat} (hM : wfM M) : wfM (zr M k) := by
  intro a b
  unfold zr
  split
  · exact rTy_0 _
  · exact hM a b
theorem ob_of {n a c : Nat} (hc : c < 13) (h : ob n a = c) : a < n ∧ SH a = .inl c := by
  unfold ob at h
  split at h
  · rename_i hl
    cases hs : SH a with
    | inl x => rw [hs] at h; exact ⟨hl, by rw [show x = c from h]⟩
    | inr x => rw [hs] at h; have h : 99 = c := h; omega
  · omega
theorem alw_of {n a t : Nat} (h : 0 ≤ alw n a t) : ∃ len : Nat, a < n ∧ SH a = .inr (t, len) ∧ alw n a t = len := by
  unfold alw at h ⊢
  split at h
  · rename_i hl
    rw [if_pos hl]
    cases hs : SH a with
    | inl x => rw [hs] at h; simp at h
    | inr q =>
      rw [hs] at h
      obtain ⟨t', len⟩ := q
      by_cases ht : t' = t
      · subst ht; exact ⟨len, hl, rfl, by simp⟩
      · simp [ht] at h
  · simp at h
end
section
/-! ===== what the pure machine says, the machine does ===== -/
def AE (E : pE) : Nat → Prop := fun q => E.2.2.2 ≤ q
def tysE (E : pE) : List (ClassId × FieldType) := [(E.2.1 0, .int), (E.2.1 1, .long), (E.2.1 2, .byte), (E.2.1 3, .boolean)]
def isNe (w : Cond) : Bool := match w with
  | .fieldLinkNest _ _ _ _ _ _ => true
  | .methodLinkNest _ _ _ _ => true
  | _ => false
def stx (i : Nat) : String := if i = 0 then "row lift wind top wall above from to field road glider sink handicap score and or not done legs time best first walls rounded " else ";()<>=+-*/"
def six (i : Nat) : Nat := if i = 0 then 68 else 60
def KU (E : pE) (U : State) : Prop := va_K E.1 vwCl (tysE E) U ∧ (∀ w ∈ lw_tbl, isNe w = true → va_Nw w U) ∧ ∀ i, i < 2 → vk_R "SoarHouse$Tokens" (six i) (stx i) (E.2.2.1 (1004 + 2 * i)) U
theorem KU.warm {E : pE} {s U : State} (hW : s.WarmedH U.vm) (h : KU E s) : KU E U := by
  refine ⟨va_K.moved hW.alike h.1, fun w hw hn => ?_, fun i hi => vk_R.warm hW (h.2.2 i hi)⟩
  have h2 := h.2.1 w hw hn
  cases w <;> first | exact va_Nw.warmF hW h2 | exact va_Nw.warmM hW h2 | cases hn
theorem KU.same {E : pE} {s U : State} (hv : s.vm = U.vm) (h : KU E s) : KU E U := by
  refine ⟨va_K.moved (by rw [hv]; exact Vm.Alike.refl U.vm) h.1, fun w hw hn => ?_, fun i hi => vk_R.same hv.symm (h.2.2 i hi)⟩
  have h2 := h.2.1 w hw hn
  cases w <;> first | exact va_Nw.same rfl hv h2 | cases hn
def dxn (k : Nat) : String := if k = 0 then "DX" else "DY"
def SOk (E : pE) (M : pM) (U : State) (H : Heap) : Prop :=
  (∀ i, i < 2 → va_O "java/lang/String" (E.2.2.1 (1004 + 2 * i)) (AE E) U H ∧ va_OF "java/lang/String" "coder" "B" (.int 0) (E.2.2.1 (1004 + 2 * i)) (AE E) U H ∧ va_OF "java/lang/String" "value" "[B" (.ref (E.2.2.1 (1005 + 2 * i))) (E.2.2.1 (1004 + 2 * i)) (AE E) U H ∧ va_T .byte (E.2.2.1 (1005 + 2 * i)) (slen i) (fun k => .int (Int32.ofInt (M (1005 + 2 * i) k))) (AE E) U H) ∧
  va_Z "java/lang/String" "COMPACT_STRINGS" "Z" (.int 1) (AE E) U H ∧ va_Z "jdk/internal/util/Preconditions" "SIOOBE_FORMATTER" "Ljava/util/function/BiFunction;" (cv E.2.2.1 (vr (M 1009 0).toNat)) (AE E) U H ∧ (M 1009 0 = 0 ∨ M 1009 0 = 1009)
theorem SOk.moved {E : pE} {M : pM} {u U : State} {H : Heap} (hv : u.vm.Alike U.vm) (h : SOk E M u H) : SOk E M U H :=
  ⟨fun i hi => ⟨(h.1 i hi).1.moved hv, (h.1 i hi).2.1.moved hv, (h.1 i hi).2.2.1.moved hv, (h.1 i hi).2.2.2.moved hv⟩, h.2.1.moved hv, h.2.2.1.moved hv, h.2.2.2⟩
theorem SOk.kept {E : pE} {M : pM} {U : State} {H H1 : Heap} (h : SOk E M U H) (hq : ∀ a : Nat, a < H.size → ¬ AE E a → H1[a]? = H[a]?) : SOk E M U H1 :=
  ⟨fun i hi => ⟨(h.1 i hi).1.kept hq, (h.1 i hi).2.1.kept hq, (h.1 i hi).2.2.1.kept hq, (h.1 i hi).2.2.2.kept hq⟩, h.2.1.kept hq, h.2.2.1.kept hq, h.2.2.2⟩
theorem SOk.congr {E : pE} {M M' : pM} {U : State} {H : Heap} (h : SOk E M U H) (hm : ∀ a, 1000 ≤ a → M' a = M a) : SOk E M' U H := by
  refine ⟨fun i hi => ?_, h.2.1, by rw [hm 1009 (by omega)]; exact h.2.2.1, by rw [hm 1009 (by omega)]; exact h.2.2.2⟩
  rw [hm (1005 + 2 * i) (by omega)]
  exact h.1 i hi
def ROk (E : pE) (M : pM) (U : State) (H : Heap) : Prop :=
  (∀ a, 1000 ≤ a → a ≤ 1002 → va_T .int (E.2.2.1 a) (aln M 0 a 0).toNat (fun i => .int (Int32.ofInt (M a i))) (AE E) U H) ∧ 0 ≤ aln M 0 1002 0 ∧
  (∀ k, k < 2 → va_Z "SoarHouse" (dxn k) "[I" (.ref (E.2.2.1 (1000 + k))) (AE E) U H) ∧ SOk E M U H
theorem ROk.moved {E : pE} {M : pM} {u U : State} {H : Heap} (hv : u.vm.Alike U.vm) (h : ROk E M u H) : ROk E M U H :=
  ⟨fun a h1 h2 => (h.1 a h1 h2).moved hv, h.2.1, fun k hk => (h.2.2.1 k hk).moved hv, h.2.2.2.moved hv⟩
theorem ROk.kept {E : pE} {M : pM} {U : State} {H H1 : Heap} (h : ROk E M U H) (hq : ∀ a : Nat, a < H.size → ¬ AE E a → H1[a]? = H[a]?) : ROk E M U H1 :=
  ⟨fun a h1 h2 => (h.1 a h1 h2).kept hq, h.2.1, fun k hk => (h.2.2.1 k hk).kept hq, h.2.2.2.kept hq⟩
theorem aln_ro {M M' : pM} (h : ∀ a, 1000 ≤ a → M' a = M a) (n a : Nat) : aln M' n a 0 = aln M n a 0 := by unfold aln; rw [h 1003 (by omega)]
theorem ROk.congr {E : pE} {M M' : pM} {U : State} {H : Heap} (h : ROk E M U H) (hm : ∀ a, 1000 ≤ a → M' a = M a) : ROk E M' U H := by
  refine ⟨fun a h1 h2 => ?_, by rw [aln_ro hm]; exact h.2.1, h.2.2.1, h.2.2.2.congr hm⟩
  rw [aln_ro hm, hm a h1]
  exact h.1 a h1 h2
def lr (ad : Nat → Nat) (ls : Array Slot) (L : pL) : Prop := ls.size = L.length ∧ lv_wf ls ∧ ∀ (k : Nat) (v : pv), L[k]? = some (some v) → ls[k]? = some (Slot.val (cv ad v))
def Fx (E : pE) (j n0 r : Nat) (Me : pM) (p : Program) (R : Room) (s : State) (m : MethodId) (args : Array Value) (meth : Method) (c : Code) : Prop :=
  p.tables.exec = Jvm.exec ∧ c.code = mB j ∧ c.maxLocals = mX j ∧ s.vm.findClass (RN (mO j)) = some m.cls ∧ (∀ w ∈ lw_tbl, goodWord w = true → w.before args s = true) ∧ KU E s ∧ ROk E Me s s.heap ∧ ((mY j).name = "<init>" → meth.name = "<init>") ∧
  (mC j ≤ R.cells ∧ slL (n0 + mC j) - slL n0 ≤ R.slots) ∧ (r ≤ R.frames ∧ 60 * r ≤ R.locals) ∧ s.heap.size = E.2.2.2 + n0 ∧ (∀ k, k < 1000 → E.2.2.1 k = E.2.2.2 + k) ∧ 1 ≤ r ∧ n0 + mC j ≤ NCELL
def Sm (E : pE) (j n0 : Nat) (Me : pM) (p : Program) (l : Launch) (e : Env) (R : Room) (s : State) (m : MethodId) (args : Array Value) (below : List Frame) (meth : Method) (c : Code) (Qw : State → Prop) : pP := fun pc L S n M =>
  n0 ≤ n → n ≤ n0 + mC j → wfL L → wfS S → wfM M → (∀ a, 1000 ≤ a → M a = Me a) → L.length = mX j → ∀ (H : Heap) (locs : List Loc) (ls : Array Slot), lr E.2.2.1 ls L → va_P E.1 vwCl (wsO E n M) H → va_S (AE E) s.heap H locs →
    W p l e R s m args below meth c H locs (n - n0) (slL n - slL n0) Qw (F0 m pc ls (S.map (cv E.2.2.1)))
theorem wfS_c {v : pv} {S : List pv} (h : wfv v) (hS : wfS S) : wfS (v :: S) := fun u hu => (List.mem_cons.mp hu).elim (fun q => q ▸ h) (hS u)
theorem wfS_h {v : pv} {S : List pv} (h : wfS (v :: S)) : wfv v := h v List.mem_cons_self
theorem wfS_t {v : pv} {S : List pv} (h : wfS (v :: S)) : wfS S := fun u hu => h u (List.mem_cons_of_mem _ hu)
theorem wfL_at {L : pL} {k : Nat} {v : pv} (h : wfL L) (hk : L[k]? = some (some v)) : wfv v := h v (List.mem_of_getElem? hk)
theorem cat_cv (ad : Nat → Nat) (v : pv) : (cv ad v).category = catv v := by rcases v with x | x | k <;> first | rfl | (cases k <;> rfl)
theorem cv_w32 {ad : Nat → Nat} (x : Int32) : cv ad (vi x.toInt) = .int x := by show Value.int (Int32.ofInt x.toInt) = _; rw [Int32.ofInt_toInt]
theorem cv_w64 {ad : Nat → Nat} (x : Int64) : cv ad (vl x.toInt) = .long x := by show Value.long (Int64.ofInt x.toInt) = _; rw [Int64.ofInt_toInt]
set_option maxHeartbeats 4000000 in
theorem snd_pur {E : pE} {j n0 r : Nat} {Me : pM} {p : Program} {l : Launch} {e : Env} {R : Room} {s : State} {m : MethodId} {args : Array Value} {below : List Frame} {meth : Method} {c : Code} {Qw : State → Prop} (F : Fx E j n0 r Me p R s m args meth c)
    {pc : Nat} {L : pL} {S S' : List pv} {n : Nat} {M : pM} {i : Instr} {len : Nat} (hd : decode (mB j) pc = .ok (i, len)) (hp : pur j i len L S S') (hP : Sm E j n0 Me p l e R s m args below meth c Qw (pc + len) L S' n M) : Sm E j n0 Me p l e R s m args below meth c Qw pc L S n M := by
  intro hn1 hn2 hL hS hM hro hLl H locs ls hl hw hSS
  obtain ⟨hx, hb, hml, hown, hts, hK, hRO, hini, hRm, hRf, hsz, had, hr, hNC⟩ := F
  have K : wfS S' → W p l e R s m args below meth c H locs (n - n0) (slL n - slL n0) Qw (F0 m (pc + len) ls (S'.map (cv E.2.2.1))) := fun hw' => hP hn1 hn2 hL hw' hM hro hLl H locs ls hl hw hSS
  cases i
  case iconst v => obtain ⟨rfl, hv, rfl⟩ := hp; exact lv_iconst hx hb hd rfl (K (wfS_c hv hS))
  case bipush v =>
    obtain ⟨rfl, hv, rfl⟩ := hp
    refine lv_bipush (v := Int32.ofInt v) hx hb hd ?_ (K (wfS_c (show r32 v by unfold r32; omega) hS))
    apply Int32.toInt_inj.mp
    rw [Int8.toInt_toInt32, Int8.toInt_ofInt_of_le (by omega) (by omega), i32_t (by unfold r32; omega)]
  case sipush v =>
    obtain ⟨rfl, hv, rfl⟩ := hp
    refine lv_sipush (v := Int32.ofInt v) hx hb hd ?_ (K (wfS_c (show r32 v by unfold r32; omega) hS))
    apply Int32.toInt_inj.mp
    rw [Int16.toInt_toInt32, Int16.toInt_ofInt_of_le (by omega) (by omega), i32_t (by unfold r32; omega)]
  case lconst v =>
    obtain ⟨rfl, rfl⟩ := hp
    refine lv_lconst (v := Int64.ofInt (v : Nat)) hx hb hd ?_ (K (wfS_c (show r64 _ by unfold r64; have := v.isLt; omega) hS))
    rfl
  case ldc ix =>
    obtain ⟨rfl, q, hq, e1, rfl, rfl⟩ := hp
    exact lv_ldc hx hb hown (by rw [← e1]; exact hts _ (chk_ok cn_in0 q hq) rfl) hd (K (wfS_c (cn_rg q hq) hS))
  case ldc_w ix =>
    obtain ⟨rfl, q, hq, e1, rfl, rfl⟩ := hp
    exact lv_ldcw hx hb hown (by rw [← e1]; exact hts _ (chk_ok cn_in0 q hq) rfl) hd (K (wfS_c (cn_rg q hq) hS))
  case ldc2_w ix =>
    obtain ⟨rfl, q, hq, e1, rfl, rfl⟩ := hp
    exact lv_ldc2 hx hb hown (by rw [← e1]; exact hts _ (chk_ok cln_in0 q hq) rfl) hd (K (wfS_c (cln_rg q hq) hS))
  case iload k => obtain ⟨rfl, x, h1, rfl⟩ := hp; exact lv_iload hx hb hd (hl.2.2 _ _ h1) (K (wfS_c (wfL_at hL h1) hS))
  case iload_n k => obtain ⟨rfl, x, h1, rfl⟩ := hp; exact lv_iload_n hx hb hd rfl (hl.2.2 _ _ h1) (K (wfS_c (wfL_at hL h1) hS))
  case lload k => obtain ⟨rfl, x, h1, rfl⟩ := hp; exact lv_lload hx hb hd (hl.2.2 _ _ h1) (K (wfS_c (wfL_at hL h1) hS))
  case lload_n k => obtain ⟨rfl, x, h1, rfl⟩ := hp; exact lv_lload_n hx hb hd rfl (hl.2.2 _ _ h1) (K (wfS_c (wfL_at hL h1) hS))
  case aload k =>
    obtain ⟨rfl, x, h1, rfl⟩ := hp
    cases x with
    | zero => exact lv_aloadN hx hb hd (hl.2.2 _ _ h1) (K (wfS_c (wfL_at hL h1) hS))
    | succ x => exact lv_aload hx hb hd (hl.2.2 _ _ h1) (K (wfS_c (wfL_at hL h1) hS))
  case aload_n k =>
    obtain ⟨rfl, x, h1, rfl⟩ := hp
    cases x with
    | zero => exact lv_aload_nN hx hb hd rfl (hl.2.2 _ _ h1) (K (wfS_c (wfL_at hL h1) hS))
    | succ x => exact lv_aload_n hx hb hd rfl (hl.2.2 _ _ h1) (K (wfS_c (wfL_at hL h1) hS))
  case dup => obtain ⟨rfl, v, S0, rfl, hc, rfl⟩ := hp; exact lv_dup hx hb hd (by rw [cat_cv]; exact hc) (K (wfS_c (wfS_h hS) hS))
  case pop => obtain ⟨rfl, v, S0, rfl, hc, rfl⟩ := hp; exact lv_pop hx hb hd (by rw [cat_cv]; exact hc) (K (wfS_t hS))
  case dup2 => obtain ⟨rfl, v, u, S0, rfl, hc, hc2, rfl⟩ := hp; exact lv_dup2_11 hx hb hd (by rw [cat_cv]; exact hc) (by rw [cat_cv]; exact hc2) (K (wfS_c (wfS_h hS) (wfS_c (wfS_h (wfS_t hS)) hS)))
  case ineg =>
    obtain ⟨rfl, a, S0, rfl, rfl⟩ := hp
    have K := K (wfS_c (w32_r _) (wfS_t hS))
    refine lv_ineg hx hb hd ?_
    rw [← i32_neg]
    exact K
  case i2l =>
    obtain ⟨rfl, a, S0, rfl, rfl⟩ := hp
    have ha : r32 a := wfS_h hS
    exact lv_i2l hx hb hd (i32_i64 ha).symm (K (wfS_c (show r64 a by unfold r32 at ha; unfold r64; omega) (wfS_t hS)))
  case i2b => obtain ⟨rfl, a, S0, rfl, rfl⟩ := hp; exact lv_i2b hx hb hd (i32_8 a).symm (K (wfS_c (w8_r _) (wfS_t hS)))
  case l2i =>
    obtain ⟨rfl, a, S0, rfl, rfl⟩ := hp
    have K := K (wfS_c (i32_r _) (wfS_t hS))
    rw [List.map_cons, cv_w32] at K
    exact lv_l2i hx hb hd rfl K
  case i2c =>
    obtain ⟨rfl, a, S0, rfl, rfl⟩ := hp
    have K := K (wfS_c (i32_r _) (wfS_t hS))
    rw [List.map_cons, cv_w32] at K
    exact lv_i2c hx hb hd rfl K
  case idiv =>
    obtain ⟨rfl, a, b, S0, rfl, hne, rfl⟩ := hp
    have hb' : r32 b := wfS_h hS
    have ha : r32 a := wfS_h (wfS_t hS)
    have K := K (wfS_c (w32_r _) (wfS_t (wfS_t hS)))
    refine lv_idiv hx hb hd (fun q => hne ((i32_eq hb' r32_0).mp q)) ?_
    rw [← i32_div ha hb']
    exact K
  case irem =>
    obtain ⟨rfl, a, b, S0, rfl, hne, rfl⟩ := hp
    have hb' : r32 b := wfS_h hS
    have ha : r32 a := wfS_h (wfS_t hS)
    have K := K (wfS_c (tmod_r ha hb' hne) (wfS_t (wfS_t hS)))
    refine lv_irem hx hb hd (fun q => hne ((i32_eq hb' r32_0).mp q)) ?_
    rw [← i32_rem ha hb']
    exact K
  case lcmp =>
    obtain ⟨rfl, a, b, S0, rfl, rfl⟩ := hp
    have hb' : r64 b := wfS_h hS
    have ha : r64 a := wfS_h (wfS_t hS)
    have K := K (wfS_c (show r32 _ by unfold r32; split <;> (try split) <;> omega) (wfS_t (wfS_t hS)))
    refine W.lcmp hx hb hd ?_
    have h1 : lg_cmp (Int64.ofInt a) (Int64.ofInt b) = Int32.ofInt (if b < a then 1 else if a = b then 0 else -1) := by
      have e1 : Int64.ofInt b < Int64.ofInt a ↔ b < a := by rw [Int64.lt_iff_toInt_lt, i64_t ha, i64_t hb']
      have e2 : Int64.ofInt a = Int64.ofInt b ↔ a = b := by rw [← Int64.toInt_inj, i64_t ha, i64_t hb']
      unfold lg_cmp
      simp only [e1, e2]
      split <;> (try split) <;> rfl
    rw [h1]
    exact K
  case lshl =>
    obtain ⟨rfl, a, b, S0, rfl, rfl⟩ := hp
    have K := K (wfS_c (i64_r _) (wfS_t (wfS_t hS)))
    rw [List.map_cons, cv_w64] at K
    exact lv_lshl hx hb hd rfl K
  case lshr =>
    obtain ⟨rfl, a, b, S0, rfl, rfl⟩ := hp
    have K := K (wfS_c (i64_r _) (wfS_t (wfS_t hS)))
    rw [List.map_cons, cv_w64] at K
    exact lv_lshr hx hb hd rfl K
  case lushr =>
    obtain ⟨rfl, a, b, S0, rfl, rfl⟩ := hp
    have K := K (wfS_c (i64_r _) (wfS_t (wfS_t hS)))
    rw [List.map_cons, cv_w64] at K
    exact lv_lushr hx hb hd rfl K
  case iadd =>
    obtain ⟨rfl, hp⟩ := hp
    rcases hp with ⟨f, a, b, S0, hf, rfl, rfl⟩ | ⟨f, a, b, S0, hf, rfl, rfl⟩
    · have hf := Option.some.inj hf
      subst hf
      have K := K (wfS_c (w32_r _) (wfS_t (wfS_t hS)))
      refine lv_iadd hx hb hd ?_
      rw [← i32_add]
      exact K
    · cases hf
  case isub =>
    obtain ⟨rfl, hp⟩ := hp
    rcases hp with ⟨f, a, b, S0, hf, rfl, rfl⟩ | ⟨f, a, b, S0, hf, rfl, rfl⟩
    · have hf := Option.some.inj hf
      subst hf
      have K := K (wfS_c (w32_r _) (wfS_t (wfS_t hS)))
      refine lv_isub hx hb hd ?_
      rw [← i32_sub]
      exact K
    · cases hf
  case imul =>
    obtain ⟨rfl, hp⟩ := hp
    rcases hp with ⟨f, a, b, S0, hf, rfl, rfl⟩ | ⟨f, a, b, S0, hf, rfl, rfl⟩
    · have hf := Option.some.inj hf
      subst hf
      have K := K (wfS_c (w32_r _) (wfS_t (wfS_t hS)))
      refine lv_imul hx hb hd ?_
      rw [← i32_mul]
      exact K
    · cases hf
  case iand =>
    obtain ⟨rfl, hp⟩ := hp
    rcases hp with ⟨f, a, b, S0, hf, rfl, rfl⟩ | ⟨f, a, b, S0, hf, rfl, rfl⟩
    · have hf := Option.some.inj hf
      subst hf
      have K := K (wfS_c (i32_r _) (wfS_t (wfS_t hS)))
      rw [List.map_cons, cv_w32] at K
      exact lv_iand hx hb hd K
    · cases hf
  case ior =>
    obtain ⟨rfl, hp⟩ := hp
    rcases hp with ⟨f, a, b, S0, hf, rfl, rfl⟩ | ⟨f, a, b, S0, hf, rfl, rfl⟩
    · have hf := Option.some.inj hf
      subst hf
      have K := K (wfS_c (i32_r _) (wfS_t (wfS_t hS)))
      rw [List.map_cons, cv_w32] at K
      exact lv_ior hx hb hd K
    · cases hf
  case ixor =>
    obtain ⟨rfl, hp⟩ := hp
    rcases hp with ⟨f, a, b, S0, hf, rfl, rfl⟩ | ⟨f, a, b, S0, hf, rfl, rfl⟩
    · have hf := Option.some.inj hf
      subst hf
      have K := K (wfS_c (i32_r _) (wfS_t (wfS_t hS)))
      rw [List.map_cons, cv_w32] at K
      exact lv_ixor hx hb hd K
    · cases hf
  case ishl =>
    obtain ⟨rfl, hp⟩ := hp
    rcases hp with ⟨f, a, b, S0, hf, rfl, rfl⟩ | ⟨f, a, b, S0, hf, rfl, rfl⟩
    · have hf := Option.some.inj hf
      subst hf
      have K := K (wfS_c (i32_r _) (wfS_t (wfS_t hS)))
      rw [List.map_cons, cv_w32] at K
      exact lv_ishl hx hb hd K
    · cases hf
  case ishr =>
    obtain ⟨rfl, hp⟩ := hp
    rcases hp with ⟨f, a, b, S0, hf, rfl, rfl⟩ | ⟨f, a, b, S0, hf, rfl, rfl⟩
    · have hf := Option.some.inj hf
      subst hf
      have K := K (wfS_c (i32_r _) (wfS_t (wfS_t hS)))
      rw [List.map_cons, cv_w32] at K
      exact lv_ishr hx hb hd K
    · cases hf
  case iushr =>
    obtain ⟨rfl, hp⟩ := hp
    rcases hp with ⟨f, a, b, S0, hf, rfl, rfl⟩ | ⟨f, a, b, S0, hf, rfl, rfl⟩
    · have hf := Option.some.inj hf
      subst hf
      have K := K (wfS_c (i32_r _) (wfS_t (wfS_t hS)))
      rw [List.map_cons, cv_w32] at K
      exact lv_iushr hx hb hd rfl K
    · cases hf
  case ladd =>
    obtain ⟨rfl, hp⟩ := hp
    rcases hp with ⟨f, a, b, S0, hf, rfl, rfl⟩ | ⟨f, a, b, S0, hf, rfl, rfl⟩
    · cases hf
    · have hf := Option.some.inj hf
      subst hf
      have K := K (wfS_c (i64_r _) (wfS_t (wfS_t hS)))
      rw [List.map_cons, cv_w64] at K
      exact lv_ladd hx hb hd K
  case lsub =>
    obtain ⟨rfl, hp⟩ := hp
    rcases hp with ⟨f, a, b, S0, hf, rfl, rfl⟩ | ⟨f, a, b, S0, hf, rfl, rfl⟩
    · cases hf
    · have hf := Option.some.inj hf
      subst hf
      have K := K (wfS_c (i64_r _) (wfS_t (wfS_t hS)))
      rw [List.map_cons, cv_w64] at K
      exact lv_lsub hx hb hd K
  case lmul =>
    obtain ⟨rfl, hp⟩ := hp
    rcases hp with ⟨f, a, b, S0, hf, rfl, rfl⟩ | ⟨f, a, b, S0, hf, rfl, rfl⟩
    · cases hf
    · have hf := Option.some.inj hf
      subst hf
      have K := K (wfS_c (i64_r _) (wfS_t (wfS_t hS)))
      rw [List.map_cons, cv_w64] at K
      exact lv_lmul hx hb hd K
  case land =>
    obtain ⟨rfl, hp⟩ := hp
    rcases hp with ⟨f, a, b, S0, hf, rfl, rfl⟩ | ⟨f, a, b, S0, hf, rfl, rfl⟩
    · cases hf
    · have hf := Option.some.inj hf
      subst hf
      have K := K (wfS_c (i64_r _) (wfS_t (wfS_t hS)))
      rw [List.map_cons, cv_w64] at K
      exact lv_land hx hb hd K
  case lor =>
    obtain ⟨rfl, hp⟩ := hp
    rcases hp with ⟨f, a, b, S0, hf, rfl, rfl⟩ | ⟨f, a, b, S0, hf, rfl, rfl⟩
    · cases hf
    · have hf := Option.some.inj hf
      subst hf
      have K := K (wfS_c (i64_r _) (wfS_t (wfS_t hS)))
      rw [List.map_cons, cv_w64] at K
      exact lv_lor hx hb hd K
  case lxor =>
    obtain ⟨rfl, hp⟩ := hp
    rcases hp with ⟨f, a, b, S0, hf, rfl, rfl⟩ | ⟨f, a, b, S0, hf, rfl, rfl⟩
    · cases hf
    · have hf := Option.some.inj hf
      subst hf
      have K := K (wfS_c (i64_r _) (wfS_t (wfS_t hS)))
      rw [List.map_cons, cv_w64] at K
      exact lv_lxor hx hb hd K
  all_goals (obtain ⟨-, ⟨f, a, b, S0, hf, -⟩ | ⟨f, a, b, S0, hf, -⟩⟩ := hp <;> cases hf)
end
section
def aso (ad : Nat → Nat) (L : pL) : List (Nat × Value) := (List.range L.length).filterMap (fun k => match L[k]? with
  | some (some v) => some (k, cv ad v)
  | _ => none)
theorem aso_in {ad : Nat → Nat} {L : pL} {k : Nat} {v : pv} (h : L[k]? = some (some v)) : (k, cv ad v) ∈ aso ad L := by
  refine List.mem_filterMap.mpr ⟨k, List.mem_range.mpr (List.getElem?_eq_some_iff.mp h).1, ?_⟩
  rw [h]
theorem aso_has {ad : Nat → Nat} {ls : Array Slot} {L : pL} (h : lr ad ls L) : lv_has ls L.length (aso ad L) := by
  refine ⟨h.1, h.2.1, fun q hq => ?_⟩
  obtain ⟨k, hk, he⟩ := List.mem_filterMap.mp hq
  split at he
  · rename_i v hv
    cases he
    exact h.2.2 k v hv
  · cases he
theorem kil_len (L : pL) (k : Nat) : (kil L k).length = L.length := by cases k <;> simp [kil]
theorem kil_at {L : pL} {i k : Nat} {u : pv} (h : (kil L i)[k]? = some (some u)) : L[k]? = some (some u) ∧ (k + 1 = i → catv u = 1) := by
  cases i with
  | zero => exact ⟨h, fun q => by omega⟩
  | succ m =>
    have h : (L.set m (clr (L.getD m none)))[k]? = some (some u) := h
    by_cases hk : k = m
    · subst hk
      by_cases hl : k < L.length
      · rw [List.getElem?_set_self hl] at h
        have h := Option.some.inj h
        rw [List.getD_eq_getElem?_getD] at h
        rw [List.getElem?_eq_getElem hl] at h ⊢
        simp only [Option.getD_some] at h
        generalize L[k] = o at h ⊢
        rcases o with _ | x | x | x <;> simp [clr] at h
        · subst h; exact ⟨rfl, fun _ => rfl⟩
        · subst h; exact ⟨rfl, fun _ => rfl⟩
      · rw [List.getElem?_eq_none (by simp; omega)] at h
        cases h
    · rw [List.getElem?_set_ne (Ne.symm hk)] at h
      exact ⟨h, fun q => by omega⟩
theorem lr_st1 {ad : Nat → Nat} {ls : Array Slot} {L : pL} {i : Nat} {v : pv} (h : lv_has ls L.length ((i, cv ad v) :: (aso ad L).filter (fun q => !(q.1 == i) && !(q.1 + 1 == i && q.2.category == 2)))) (hi : i < L.length) : lr ad ls ((kil L i).set i (some v)) := by
  refine ⟨by rw [List.length_set, kil_len]; exact h.1, h.2.1, fun k u hk => ?_⟩
  by_cases he : k = i
  · subst he
    rw [List.getElem?_set_self (by rw [kil_len]; exact hi)] at hk
    cases hk
    exact h.2.2 (k, cv ad v) List.mem_cons_self
  · rw [List.getElem?_set_ne (Ne.symm he)] at hk
    obtain ⟨h1, h2⟩ := kil_at hk
    refine h.2.2 (k, cv ad u) (List.mem_cons_of_mem _ (List.mem_filter.mpr ⟨aso_in h1, ?_⟩))
    rw [cat_cv]
    by_cases hz : k + 1 = i
    · simp [he, h2 hz]
    · simp [he, hz]
theorem lr_st2 {ad : Nat → Nat} {ls : Array Slot} {L : pL} {i : Nat} {v : pv} (h : lv_has ls L.length ((i, cv ad v) :: (aso ad L).filter (fun q => !(q.1 == i) && (!(q.1 == i + 1) && !(q.1 + 1 == i && q.2.category == 2))))) (hi : i + 1 < L.length) : lr ad ls (((kil L i).set i (some v)).set (i + 1) none) := by
  refine ⟨by rw [List.length_set, List.length_set, kil_len]; exact h.1, h.2.1, fun k u hk => ?_⟩
  by_cases hf : k = i + 1
  · subst hf
    rw [List.getElem?_set_self (by rw [List.length_set, kil_len]; exact hi)] at hk
    cases hk
  · rw [List.getElem?_set_ne (Ne.symm hf)] at hk
    by_cases he : k = i
    · subst he
      rw [List.getElem?_set_self (by rw [kil_len]; omega)] at hk
      cases hk
      exact h.2.2 (k, cv ad v) List.mem_cons_self
    · rw [List.getElem?_set_ne (Ne.symm he)] at hk
      obtain ⟨h1, h2⟩ := kil_at hk
      refine h.2.2 (k, cv ad u) (List.mem_cons_of_mem _ (List.mem_filter.mpr ⟨aso_in h1, ?_⟩))
      rw [cat_cv]
      by_cases hz : k + 1 = i
      · simp [he, hf, h2 hz]
      · simp [he, hf, hz]
theorem wfL_s {L : pL} {i : Nat} {o : Option pv} (h : wfL L) (hv : ∀ v, o = some v → wfv v) : wfL (L.set i o) := by
  intro u hu
  rcases List.mem_or_eq_of_mem_set hu with h1 | h1
  · exact h u h1
  · exact hv u h1.symm
theorem wfL_k {L : pL} {i : Nat} (h : wfL L) : wfL (kil L i) := by
  intro u hu
  obtain ⟨k, hk⟩ := List.getElem?_of_mem hu
  exact h u (List.mem_of_getElem? (kil_at hk).1)
set_option maxHeartbeats 4000000 in
theorem snd_sto {E : pE} {j n0 r : Nat} {Me : pM} {p : Program} {l : Launch} {e : Env} {R : Room} {s : State} {m : MethodId} {args : Array Value} {below : List Frame} {meth : Method} {c : Code} {Qw : State → Prop} (F : Fx E j n0 r Me p R s m args meth c)
    {pc : Nat} {L : pL} {S : List pv} {n : Nat} {M : pM} {L' : pL} {S' : List pv} {i : Instr} {len : Nat} (hd : decode (mB j) pc = .ok (i, len)) (hp : sto i len L L' S S') (hP : Sm E j n0 Me p l e R s m args below meth c Qw (pc + len) L' S' n M) : Sm E j n0 Me p l e R s m args below meth c Qw pc L S n M := by
  intro hn1 hn2 hL hS hM hro hLl H locs ls hl hw hSS
  obtain ⟨hx, hb, hml, hown, hts, hK, hRO, hini, hRm, hRf, hsz, had, hr, hNC⟩ := F
  have K : ∀ ls', wfL L' → wfS S' → L'.length = mX j → lr E.2.2.1 ls' L' → W p l e R s m args below meth c H locs (n - n0) (slL n - slL n0) Qw (F0 m (pc + len) ls' (S'.map (cv E.2.2.1))) := fun ls' hL' hS' hl0 hl' => hP hn1 hn2 hL' hS' hM hro hl0 H locs ls' hl' hw hSS
  have hA := aso_has hl
  cases i
  case istore k =>
    obtain ⟨rfl, x, rfl, hk, rfl⟩ := hp
    refine lv_istore hx hb hd hA hk rfl (fun ls' hl' => K ls' (wfL_s (wfL_k hL) (fun v q => by cases q; exact wfS_h hS)) (wfS_t hS) (by rw [List.length_set, kil_len]; exact hLl) (lr_st1 hl' hk))
  case istore_n k =>
    obtain ⟨rfl, x, rfl, hk, rfl⟩ := hp
    refine lv_istore_n hx hb hd rfl hA hk rfl (fun ls' hl' => K ls' (wfL_s (wfL_k hL) (fun v q => by cases q; exact wfS_h hS)) (wfS_t hS) (by rw [List.length_set, kil_len]; exact hLl) (lr_st1 hl' hk))
  case astore k =>
    obtain ⟨rfl, x, rfl, hk, rfl⟩ := hp
    cases x with
    | zero => exact lv_astoreN hx hb hd hA hk rfl (fun ls' hl' => K ls' (wfL_s (wfL_k hL) (fun v q => by cases q; exact wfS_h hS)) (wfS_t hS) (by rw [List.length_set, kil_len]; exact hLl) (lr_st1 (v := vr 0) hl' hk))
    | succ x => exact lv_astore hx hb hd hA hk rfl (fun ls' hl' => K ls' (wfL_s (wfL_k hL) (fun v q => by cases q; exact wfS_h hS)) (wfS_t hS) (by rw [List.length_set, kil_len]; exact hLl) (lr_st1 (v := vr (x + 1)) hl' hk))
  case astore_n k =>
    obtain ⟨rfl, x, rfl, hk, rfl⟩ := hp
    cases x with
    | zero => exact lv_astore_nN hx hb hd rfl hA hk rfl (fun ls' hl' => K ls' (wfL_s (wfL_k hL) (fun v q => by cases q; exact wfS_h hS)) (wfS_t hS) (by rw [List.length_set, kil_len]; exact hLl) (lr_st1 (v := vr 0) hl' hk))
    | succ x => exact lv_astore_n hx hb hd rfl hA hk rfl (fun ls' hl' => K ls' (wfL_s (wfL_k hL) (fun v q => by cases q; exact wfS_h hS)) (wfS_t hS) (by rw [List.length_set, kil_len]; exact hLl) (lr_st1 (v := vr (x + 1)) hl' hk))
  case lstore k =>
    obtain ⟨rfl, x, rfl, hk, rfl⟩ := hp
    refine lv_lstore hx hb hd hA hk rfl (fun ls' hl' => K ls' (wfL_s (wfL_s (wfL_k hL) (fun v q => by cases q; exact wfS_h hS)) (fun v q => by cases q)) (wfS_t hS) (by rw [List.length_set, List.length_set, kil_len]; exact hLl) (lr_st2 hl' hk))
  case lstore_n k =>
    obtain ⟨rfl, x, rfl, hk, rfl⟩ := hp
    refine lv_lstore_n hx hb hd rfl hA hk rfl (fun ls' hl' => K ls' (wfL_s (wfL_s (wfL_k hL) (fun v q => by cases q; exact wfS_h hS)) (fun v q => by cases q)) (wfS_t hS) (by rw [List.length_set, List.length_set, kil_len]; exact hLl) (lr_st2 hl' hk))
  case iinc k cc =>
    obtain ⟨rfl, hc, x, hk, rfl, rfl⟩ := hp
    obtain ⟨q, hq⟩ := List.getElem?_of_mem (aso_in (ad := E.2.2.1) hk)
    have hkl : k < L.length := (List.getElem?_eq_some_iff.mp hk).1
    refine lv_iinc (v := Int32.ofInt (w32 (x + cc))) hx hb hd hA hq (i32_add x cc).symm hkl rfl (fun ls' hl' => K ls' (wfL_s (wfL_k hL) (fun v q => by cases q; exact w32_r _)) hS (by rw [List.length_set, kil_len]; exact hLl) (lr_st1 (v := vi (w32 (x + cc))) hl' hkl))
  all_goals exact hp.elim
set_option maxHeartbeats 4000000 in
theorem snd_if {E : pE} {j n0 r : Nat} {Me : pM} {p : Program} {l : Launch} {e : Env} {R : Room} {s : State} {m : MethodId} {args : Array Value} {below : List Frame} {meth : Method} {c : Code} {Qw : State → Prop} (F : Fx E j n0 r Me p R s m args meth c)
    {pc : Nat} {L : pL} {S : List pv} {n : Nat} {M : pM} {S' : List pv} {cc : jC} {off x : Int} {tgt : Nat} (hd : decode (mB j) pc = .ok (.ifCond cc off, 3)) (ht : (pc : Int) + off = (tgt : Nat)) (kt : cnd cc x 0 → Sm E j n0 Me p l e R s m args below meth c Qw tgt L S' n M) (kf : ¬ cnd cc x 0 → Sm E j n0 Me p l e R s m args below meth c Qw (pc + 3) L S' n M) : Sm E j n0 Me p l e R s m args below meth c Qw pc L (vi x :: S') n M := by
  intro hn1 hn2 hL hS hM hro hLl H locs ls hl hw hSS
  obtain ⟨hx, hb, hml, hown, hts, hK, hRO, hini, hRm, hRf, hsz, had, hr, hNC⟩ := F
  have hx0 : r32 x := wfS_h hS
  have Kt : cnd cc x 0 → W p l e R s m args below meth c H locs (n - n0) (slL n - slL n0) Qw (F0 m tgt ls (S'.map (cv E.2.2.1))) := fun h => kt h hn1 hn2 hL (wfS_t hS) hM hro hLl H locs ls hl hw hSS
  have Kf : ¬ cnd cc x 0 → W p l e R s m args below meth c H locs (n - n0) (slL n - slL n0) Qw (F0 m (pc + 3) ls (S'.map (cv E.2.2.1))) := fun h => kf h hn1 hn2 hL (wfS_t hS) hM hro hLl H locs ls hl hw hSS
  have e1 := i32_eq hx0 r32_0
  have e2 := i32_lt hx0 r32_0
  have e3 := i32_le r32_0 hx0
  have e4 := i32_lt r32_0 hx0
  have e5 := i32_le hx0 r32_0
  cases cc
  case eq => exact lv_if_eq hx hb hd ht (fun h => Kt (e1.mp h)) (fun h => Kf (fun q => h (e1.mpr q)))
  case ne => exact lv_if_ne hx hb hd ht (fun h => Kt ((not_congr e1).mp h)) (fun h => Kf (fun q => q (e1.mp h)))
  case lt => exact lv_if_lt hx hb hd ht (fun h => Kt (e2.mp h)) (fun h => Kf (fun q => h (e2.mpr q)))
  case ge => exact lv_if_ge hx hb hd ht (fun h => Kt (e3.mp h)) (fun h => Kf (fun q => h (e3.mpr q)))
  case gt => exact lv_if_gt hx hb hd ht (fun h => Kt (e4.mp h)) (fun h => Kf (fun q => h (e4.mpr q)))
  case le => exact lv_if_le hx hb hd ht (fun h => Kt (e5.mp h)) (fun h => Kf (fun q => h (e5.mpr q)))
set_option maxHeartbeats 4000000 in
theorem snd_icmp {E : pE} {j n0 r : Nat} {Me : pM} {p : Program} {l : Launch} {e : Env} {R : Room} {s : State} {m : MethodId} {args : Array Value} {below : List Frame} {meth : Method} {c : Code} {Qw : State → Prop} (F : Fx E j n0 r Me p R s m args meth c)
    {pc : Nat} {L : pL} {S : List pv} {n : Nat} {M : pM} {S' : List pv} {cc : jC} {off x y : Int} {tgt : Nat} (hd : decode (mB j) pc = .ok (.if_icmp cc off, 3)) (ht : (pc : Int) + off = (tgt : Nat)) (kt : cnd cc x y → Sm E j n0 Me p l e R s m args below meth c Qw tgt L S' n M) (kf : ¬ cnd cc x y → Sm E j n0 Me p l e R s m args below meth c Qw (pc + 3) L S' n M) : Sm E j n0 Me p l e R s m args below meth c Qw pc L (vi y :: vi x :: S') n M := by
  intro hn1 hn2 hL hS hM hro hLl H locs ls hl hw hSS
  obtain ⟨hx, hb, hml, hown, hts, hK, hRO, hini, hRm, hRf, hsz, had, hr, hNC⟩ := F
  have hy0 : r32 y := wfS_h hS
  have hx0 : r32 x := wfS_h (wfS_t hS)
  have hS' := wfS_t (wfS_t hS)
  have Kt : cnd cc x y → W p l e R s m args below meth c H locs (n - n0) (slL n - slL n0) Qw (F0 m tgt ls (S'.map (cv E.2.2.1))) := fun h => kt h hn1 hn2 hL hS' hM hro hLl H locs ls hl hw hSS
  have Kf : ¬ cnd cc x y → W p l e R s m args below meth c H locs (n - n0) (slL n - slL n0) Qw (F0 m (pc + 3) ls (S'.map (cv E.2.2.1))) := fun h => kf h hn1 hn2 hL hS' hM hro hLl H locs ls hl hw hSS
  have e1 := i32_eq hx0 hy0
  have e2 := i32_lt hx0 hy0
  have e3 := i32_le hy0 hx0
  have e4 := i32_lt hy0 hx0
  have e5 := i32_le hx0 hy0
  cases cc
  case eq => exact lv_icmp_eq hx hb hd ht (fun h => Kt (e1.mp h)) (fun h => Kf (fun q => h (e1.mpr q)))
  case ne => exact lv_icmp_ne hx hb hd ht (fun h => Kt ((not_congr e1).mp h)) (fun h => Kf (fun q => q (e1.mp h)))
  case lt => exact lv_icmp_lt hx hb hd ht (fun h => Kt (e2.mp h)) (fun h => Kf (fun q => h (e2.mpr q)))
  case ge => exact lv_icmp_ge hx hb hd ht (fun h => Kt (e3.mp h)) (fun h => Kf (fun q => h (e3.mpr q)))
  case gt => exact lv_icmp_gt hx hb hd ht (fun h => Kt (e4.mp h)) (fun h => Kf (fun q => h (e4.mpr q)))
  case le => exact lv_icmp_le hx hb hd ht (fun h => Kt (e5.mp h)) (fun h => Kf (fun q => h (e5.mpr q)))
theorem snd_goto {E : pE} {j n0 r : Nat} {Me : pM} {p : Program} {l : Launch} {e : Env} {R : Room} {s : State} {m : MethodId} {args : Array Value} {below : List Frame} {meth : Method} {c : Code} {Qw : State → Prop} (F : Fx E j n0 r Me p R s m args meth c)
    {pc : Nat} {L : pL} {S : List pv} {n : Nat} {M : pM} {off : Int} {tgt : Nat} (hd : decode (mB j) pc = .ok (.goto off, 3)) (ht : (pc : Int) + off = (tgt : Nat)) (k : Sm E j n0 Me p l e R s m args below meth c Qw tgt L S n M) : Sm E j n0 Me p l e R s m args below meth c Qw pc L S n M := by
  intro hn1 hn2 hL hS hM hro hLl H locs ls hl hw hSS
  obtain ⟨hx, hb, hml, hown, hts, hK, hRO, hini, hRm, hRf, hsz, had, hr, hNC⟩ := F
  exact lv_goto hx hb hd ht (k hn1 hn2 hL hS hM hro hLl H locs ls hl hw hSS)
theorem snd_tab {E : pE} {j n0 r : Nat} {Me : pM} {p : Program} {l : Launch} {e : Env} {R : Room} {s : State} {m : MethodId} {args : Array Value} {below : List Frame} {meth : Method} {c : Code} {Qw : State → Prop} (F : Fx E j n0 r Me p R s m args meth c)
    {pc : Nat} {L : pL} {S : List pv} {n : Nat} {M : pM} {S' : List pv} {len : Nat} {d lo hi x : Int} {offs : Array Int} (hd : decode (mB j) pc = .ok (.tableswitch d lo hi offs, len)) (k0 : ∀ tgt : Nat, (x < lo ∨ hi < x) → (pc : Int) + d = tgt → Sm E j n0 Me p l e R s m args below meth c Qw tgt L S' n M) (k1 : ∃ t : Nat, (pc : Int) + d = t)
    (k2 : ∀ k : Nat, x = lo + k → x ≤ hi → ∃ off, offs[k]? = some off ∧ ∃ tgt : Nat, (pc : Int) + off = tgt ∧ Sm E j n0 Me p l e R s m args below meth c Qw tgt L S' n M) : Sm E j n0 Me p l e R s m args below meth c Qw pc L (vi x :: S') n M := by
  intro hn1 hn2 hL hS hM hro hLl H locs ls hl hw hSS
  obtain ⟨hx, hb, hml, hown, hts, hK, hRO, hini, hRm, hRf, hsz, had, hr, hNC⟩ := F
  have hx0 : r32 x := wfS_h hS
  have hS' := wfS_t hS
  have e := i32_t hx0
  by_cases h : x < lo ∨ hi < x
  · obtain ⟨t, ht⟩ := k1
    exact lv_tableOut hx hb hd (by rw [e]; exact h) ht (k0 t h ht hn1 hn2 hL hS' hM hro hLl H locs ls hl hw hSS)
  · obtain ⟨off, h1, t, ht, hk⟩ := k2 (x - lo).toNat (by omega) (by omega)
    exact lv_tableIn (off := off) hx hb hd (by rw [e]; omega) (by rw [e]; omega) (by rw [e]; exact h1) ht (hk hn1 hn2 hL hS' hM hro hLl H locs ls hl hw hSS)
theorem snd_look {E : pE} {j n0 r : Nat} {Me : pM} {p : Program} {l : Launch} {e : Env} {R : Room} {s : State} {m : MethodId} {args : Array Value} {below : List Frame} {meth : Method} {c : Code} {Qw : State → Prop} (F : Fx E j n0 r Me p R s m args meth c)
    {pc : Nat} {L : pL} {S : List pv} {n : Nat} {M : pM} {S' : List pv} {len : Nat} {d x : Int} {ps : Array (Int × Int)} {tgt : Nat} (hd : decode (mB j) pc = .ok (.lookupswitch d ps, len)) (hp : (ps.toList.zip (ps.toList.drop 1)).all (fun (a, next) => a.1 < next.1) = true) (ht : (pc : Int) + Op.lookupswitch.offset ps.toList d x = tgt) (k : Sm E j n0 Me p l e R s m args below meth c Qw tgt L S' n M) : Sm E j n0 Me p l e R s m args below meth c Qw pc L (vi x :: S') n M := by
  intro hn1 hn2 hL hS hM hro hLl H locs ls hl hw hSS
  obtain ⟨hx, hb, hml, hown, hts, hK, hRO, hini, hRm, hRf, hsz, had, hr, hNC⟩ := F
  have hx0 : r32 x := wfS_h hS
  exact lv_lookup hx hb hd hp (by rw [i32_t hx0]) ht (k hn1 hn2 hL (wfS_t hS) hM hro hLl H locs ls hl hw hSS)
end
section
theorem ncell_lt {n0 mc n : Nat} (h1 : n ≤ n0 + mc) (h2 : n0 + mc ≤ NCELL) {a : Nat} (h : a < n) : a < 1000 := by
  have : NCELL = 119 := rfl
  omega
theorem lays_ok {args : Array Value} {s : State} (hts : ∀ w ∈ lw_tbl, goodWord w = true → w.before args s = true) {c : Nat} (hc : c < 13) : ∀ w ∈ u_ws (RN c) (cT c) (cN c), w.before args s = true := by
  intro w hw
  obtain ⟨k, hk, rfl⟩ := List.mem_map.mp hw
  have hk := List.mem_range.mp hk
  refine hts _ (chk_ok lay_in0 (c, k) (List.mem_flatMap.mpr ⟨c, List.mem_range.mpr hc, List.mem_map.mpr ⟨k, List.mem_range.mpr hk, rfl⟩⟩)) ?_
  show goodWord (u_lay (RN c) (cT c) k) = true
  unfold u_lay
  split <;> rfl
theorem utg_fit {ad : Nat → Nat} {ty : FieldType} {v : pv} {x : Int} (h : utg ty v x) : narrow ty (cv ad v) = cv ad v ∧ fits ty (cv ad v) = true := by
  cases ty <;> simp only [utg] at h
  case boolean => obtain ⟨rfl, rfl | rfl⟩ := h <;> exact ⟨rfl, rfl⟩
  case int => subst h; exact ⟨rfl, rfl⟩
  case long => subst h; exact ⟨rfl, rfl⟩
  case object => obtain ⟨k, rfl, rfl⟩ := h; cases k <;> exact ⟨rfl, rfl⟩
  case array => obtain ⟨k, rfl, rfl⟩ := h; cases k <;> exact ⟨rfl, rfl⟩
set_option maxHeartbeats 4000000 in
theorem snd_get {E : pE} {j n0 r : Nat} {Me : pM} {p : Program} {l : Launch} {e : Env} {R : Room} {s : State} {m : MethodId} {args : Array Value} {below : List Frame} {meth : Method} {c : Code} {Qw : State → Prop} (F : Fx E j n0 r Me p R s m args meth c)
    {pc : Nat} {L : pL} {S : List pv} {n : Nat} {M : pM} {S' : List pv} {ix a : Nat} {q : Nat × Nat × Nat × Nat × Nat × Nat} (hq : q ∈ fldL) (e1 : q.1 = mO j) (e2 : q.2.1 = ix) (hd : decode (mB j) pc = .ok (.getfield ix, 3)) (ha : ob n a = q.2.2.1) (k : Sm E j n0 Me p l e R s m args below meth c Qw (pc + 3) L (tgv (tyA q.2.2.1 q.2.2.2.1) (M a q.2.2.2.1) :: S') n M) : Sm E j n0 Me p l e R s m args below meth c Qw pc L (vr (a + 1) :: S') n M := by
  intro hn1 hn2 hL hS hM hro hLl H locs ls hl hw hSS
  obtain ⟨hx, hb, hml, hown, hts, hK, hRO, hini, hRm, hRf, hsz, had, hr, hNC⟩ := F
  obtain ⟨hk, hc⟩ := fld_rg q hq
  obtain ⟨han, hsh⟩ := ob_of hc ha
  have hwq := chk_ok fld_in0 q hq
  have hwf : wfv (tgv (tyA q.2.2.1 q.2.2.2.1) (M a q.2.2.2.1)) := tgv_wf (by have := hM a q.2.2.2.1; unfold slT at this; rw [hsh] at this; simp only [if_neg (show ¬ q.2.2.1 = 99 by omega)] at this; exact this)
  have K := k hn1 hn2 hL (wfS_c hwf (wfS_t hS)) hM hro hLl H locs ls hl hw hSS
  have hat : (wsO E n M)[a]? = some (E.2.2.2 + a, .inr (q.2.2.1, fsO E q.2.2.1 (M a))) := by rw [wsO_at han, hsh]; rfl
  have hst : (vr (a + 1) :: S').map (cv E.2.2.1) = .ref (E.2.2.2 + a) :: S'.map (cv E.2.2.1) := by show Value.ref (E.2.2.1 a) :: _ = _; rw [had a (ncell_lt hn2 hNC han)]
  rw [hst]
  subst e2
  by_cases hne : q.2.2.2.2.2 = 1
  · have hwq : Cond.fieldLinkNest (RN q.1) q.2.1 (cT q.2.2.1 q.2.2.2.1).1 (cT q.2.2.1 q.2.2.2.1).2.1 (cT q.2.2.1 q.2.2.2.1).2.2.1 "SoarHouse" ∈ lw_tbl := by have h := hwq; unfold fldW at h; rw [if_pos hne] at h; exact h
    exact va_getN hx hb (lays_ok hts hc) (fun w h => h) hown hK.1 hw a hat (cl_ok _ hc) q.2.2.2.1 hk (by rw [← e1]; exact va_Nw.use rfl (hK.2.1 _ hwq rfl)) (fun _ h => h) (fsO_get hk) hd K
  · have hwq : Cond.fieldLink (RN q.1) q.2.1 (cT q.2.2.1 q.2.2.2.1).1 (cT q.2.2.1 q.2.2.2.1).2.1 (cT q.2.2.1 q.2.2.2.1).2.2.1 ∈ lw_tbl := by have h := hwq; unfold fldW at h; rw [if_neg hne] at h; exact h
    exact va_get hx hb (lays_ok hts hc) (fun w h => h) hown hK.1 hw a hat (cl_ok _ hc) q.2.2.2.1 hk (by rw [← e1]; exact hts _ hwq rfl) (fun _ h => h) (fsO_get hk) hd K
set_option maxHeartbeats 4000000 in
theorem snd_put {E : pE} {j n0 r : Nat} {Me : pM} {p : Program} {l : Launch} {e : Env} {R : Room} {s : State} {m : MethodId} {args : Array Value} {below : List Frame} {meth : Method} {c : Code} {Qw : State → Prop} (F : Fx E j n0 r Me p R s m args meth c)
    {pc : Nat} {L : pL} {S : List pv} {n : Nat} {M : pM} {S' : List pv} {ix a : Nat} {v : pv} {x : Int} {q : Nat × Nat × Nat × Nat × Nat × Nat} (hq : q ∈ fldL) (e1 : q.1 = mO j) (e2 : q.2.1 = ix) (hd : decode (mB j) pc = .ok (.putfield ix, 3)) (hfin : (cT q.2.2.1 q.2.2.2.1).2.2.2 = false ∨ ((mY j).name = "<init>" ∧ q.2.2.1 = mO j ∧ q.2.2.2.2.2 = 0)) (hdc : (cT q.2.2.1 q.2.2.2.1).1 = RN q.2.2.1) (ha : ob n a = q.2.2.1) (hu : utg (tyA q.2.2.1 q.2.2.2.1) v x) (k : Sm E j n0 Me p l e R s m args below meth c Qw (pc + 3) L S' n (st M a q.2.2.2.1 x)) : Sm E j n0 Me p l e R s m args below meth c Qw pc L (v :: vr (a + 1) :: S') n M := by
  intro hn1 hn2 hL hS hM hro hLl H locs ls hl hw hSS
  obtain ⟨hx, hb, hml, hown, hts, hK, hRO, hini, hRm, hRf, hsz, had, hr, hNC⟩ := F
  obtain ⟨hk, hc⟩ := fld_rg q hq
  obtain ⟨han, hsh⟩ := ob_of hc ha
  have hwq := chk_ok fld_in0 q hq
  have hvw : wfv v := wfS_h hS
  have hrt : rTy (slT a q.2.2.2.1) x := by unfold slT; rw [hsh]; simp only [if_neg (show ¬ q.2.2.1 = 99 by omega)]; exact utg_wf hu hvw
  have hM' : wfM (st M a q.2.2.2.1 x) := st_wf hM hrt
  have hro' : ∀ b, 1000 ≤ b → st M a q.2.2.2.1 x b = Me b := fun b hb => by rw [st_row (by have := ncell_lt hn2 hNC han; omega)]; exact hro b hb
  have hat : (wsO E n M)[a]? = some (E.2.2.2 + a, .inr (q.2.2.1, fsO E q.2.2.1 (M a))) := by rw [wsO_at han, hsh]; rfl
  have hst : (v :: vr (a + 1) :: S').map (cv E.2.2.1) = cv E.2.2.1 v :: .ref (E.2.2.2 + a) :: S'.map (cv E.2.2.1) := by show _ :: Value.ref (E.2.2.1 a) :: _ = _; rw [had a (ncell_lt hn2 hNC han)]
  have hnew : (wsO E n M).set a (E.2.2.2 + a, .inr (q.2.2.1, (fsO E q.2.2.1 (M a)).set q.2.2.2.1 (cv E.2.2.1 v))) = wsO E n (st M a q.2.2.2.1 x) := by
    refine wsO_set han (fun b hb => st_row hb) ?_
    rw [hsh]
    show _ = Sum.inr (q.2.2.1, fsO E q.2.2.1 (st M a q.2.2.2.1 x a))
    rw [fsO_set (f' := st M a q.2.2.2.1 x a) hk (fun b hb => st_ne hb) (by rw [st_at, utg_tgv hu])]
  have K : ∀ (H1 : Heap) (locs1 : List Loc), va_P E.1 vwCl ((wsO E n M).set a (E.2.2.2 + a, .inr (q.2.2.1, (fsO E q.2.2.1 (M a)).set q.2.2.2.1 (cv E.2.2.1 v)))) H1 → va_D (AE E) ((wsO E n M).set a (E.2.2.2 + a, .inr (q.2.2.1, (fsO E q.2.2.1 (M a)).set q.2.2.2.1 (cv E.2.2.1 v)))) → va_S (AE E) s.heap H1 locs1 → W p l e R s m args below meth c H1 locs1 (n - n0) (slL n - slL n0) Qw (F0 m (pc + 3) ls (S'.map (cv E.2.2.1))) := by
    intro H1 locs1 h1 _ h3
    rw [hnew] at h1
    exact k hn1 hn2 hL (wfS_t (wfS_t hS)) hM' hro' hLl H1 locs1 ls hl h1 h3
  rw [hst]
  subst e2
  obtain ⟨hf1, hf2⟩ := utg_fit (ad := E.2.2.1) hu
  by_cases hne : q.2.2.2.2.2 = 1
  · have hwq : Cond.fieldLinkNest (RN q.1) q.2.1 (cT q.2.2.1 q.2.2.2.1).1 (cT q.2.2.1 q.2.2.2.1).2.1 (cT q.2.2.1 q.2.2.2.1).2.2.1 "SoarHouse" ∈ lw_tbl := by have h := hwq; unfold fldW at h; rw [if_pos hne] at h; exact h
    have hfin : (cT q.2.2.1 q.2.2.2.1).2.2.2 = false := hfin.elim id (fun h => by omega)
    exact va_putN hx hb (lays_ok hts hc) (fun w h => h) (tyA q.2.2.1) (ty_ok _ hc) (nm_ok _ hc) hown hK.1 hw (wsO_D E n M) hSS a hat (cl_ok _ hc) q.2.2.2.1 hk (by rw [← e1]; exact va_Nw.use rfl (hK.2.1 _ hwq rfl)) (fun _ h => h) hfin (ty_ok _ hc _ hk) hf1 hf2 (by rw [fsO_len]; exact hk) hd K
  · have hwq : Cond.fieldLink (RN q.1) q.2.1 (cT q.2.2.1 q.2.2.2.1).1 (cT q.2.2.1 q.2.2.2.1).2.1 (cT q.2.2.1 q.2.2.2.1).2.2.1 ∈ lw_tbl := by have h := hwq; unfold fldW at h; rw [if_neg hne] at h; exact h
    by_cases hfb : (cT q.2.2.1 q.2.2.2.1).2.2.2 = false
    · exact va_put hx hb (lays_ok hts hc) (fun w h => h) (tyA q.2.2.1) (ty_ok _ hc) (nm_ok _ hc) hown hK.1 hw (wsO_D E n M) hSS a hat (cl_ok _ hc) q.2.2.2.1 hk (by rw [← e1]; exact hts _ hwq rfl) (fun _ h => h) hfb (ty_ok _ hc _ hk) hf1 hf2 (by rw [fsO_len]; exact hk) hd K
    · obtain ⟨hi1, hi2, -⟩ := hfin.resolve_left hfb
      exact va_putF hx hb (lays_ok hts hc) (fun w h => h) (tyA q.2.2.1) (ty_ok _ hc) (nm_ok _ hc) hown hK.1 hw (wsO_D E n M) hSS a hat (cl_ok _ hc) q.2.2.2.1 hk (by rw [← e1]; exact hts _ hwq rfl) (fun _ h => h) (by cases hz : (cT q.2.2.1 q.2.2.2.1).2.2.2 with | true => rfl | false => exact absurd hz hfb) (hini hi1) (by rw [hdc, hi2]) (ty_ok _ hc _ hk) hf1 hf2 (by rw [fsO_len]; exact hk) hd K
def gsW (q : Nat × Nat × Nat × Nat) : Cond := if q.1 = 11 then .fieldLink (RN q.1) q.2.1 "SoarHouse" (dxn q.2.2.1) "[I" else .fieldLinkNest (RN q.1) q.2.1 "SoarHouse" (dxn q.2.2.1) "[I" "SoarHouse"
theorem gs_in0 : chk gsW (fun q => q.2.2.2) lw_tbl gsL = true := by decide +kernel
theorem gs_rg : ∀ q ∈ gsL, q.2.2.1 < 2 := by decide +kernel
theorem fld_dc : ∀ q ∈ fldL, (cT q.2.2.1 q.2.2.2.1).1 = RN q.2.2.1 := by decide +kernel
theorem snd_gs {E : pE} {j n0 r : Nat} {Me : pM} {p : Program} {l : Launch} {e : Env} {R : Room} {s : State} {m : MethodId} {args : Array Value} {below : List Frame} {meth : Method} {c : Code} {Qw : State → Prop} (F : Fx E j n0 r Me p R s m args meth c)
    {pc : Nat} {L : pL} {S : List pv} {n : Nat} {M : pM} {ix : Nat} {q : Nat × Nat × Nat × Nat} (hq : q ∈ gsL) (e1 : q.1 = mO j) (e2 : q.2.1 = ix) (hd : decode (mB j) pc = .ok (.getstatic ix, 3)) (k : Sm E j n0 Me p l e R s m args below meth c Qw (pc + 3) L (vr (1001 + q.2.2.1) :: S) n M) : Sm E j n0 Me p l e R s m args below meth c Qw pc L S n M := by
  intro hn1 hn2 hL hS hM hro hLl H locs ls hl hw hSS
  obtain ⟨hx, hb, hml, hown, hts, hK, hRO, hini, hRm, hRf, hsz, had, hr, hNC⟩ := F
  have hk := gs_rg q hq
  have hwq := chk_ok gs_in0 q hq
  have K := k hn1 hn2 hL (wfS_c (show 1001 + q.2.2.1 ≤ 5000 by omega) hS) hM hro hLl H locs ls hl hw hSS
  have hz := hRO.2.2.1 q.2.2.1 hk
  have hst : (vr (1001 + q.2.2.1) :: S).map (cv E.2.2.1) = .ref (E.2.2.1 (1000 + q.2.2.1)) :: S.map (cv E.2.2.1) := by rw [show 1001 + q.2.2.1 = 1000 + q.2.2.1 + 1 by omega]; rfl
  rw [hst] at K
  subst e2
  by_cases h11 : q.1 = 11
  · have hwq : Cond.fieldLink (RN q.1) q.2.1 "SoarHouse" (dxn q.2.2.1) "[I" ∈ lw_tbl := by have h := hwq; unfold gsW at h; rw [if_pos h11] at h; exact h
    exact va_gets hx hb hz hSS hown (by rw [← e1]; exact hts _ hwq rfl) (fun _ h => h) hd K
  · have hwq : Cond.fieldLinkNest (RN q.1) q.2.1 "SoarHouse" (dxn q.2.2.1) "[I" "SoarHouse" ∈ lw_tbl := by have h := hwq; unfold gsW at h; rw [if_neg h11] at h; exact h
    exact va_getsN hx hb hz hSS hown (by rw [← e1]; exact va_Nw.use rfl (hK.2.1 _ hwq rfl)) (fun _ h => h) hd K
end
section
theorem sh_t : ∀ a, a < 119 → (match SH a with
  | .inl _ => true
  | .inr q => decide (q.1 < 4 ∧ q.2 < 1000000)) = true := by decide +kernel
theorem sh_t4 {a n t len : Nat} (hn : n ≤ NCELL) (h : a < n) (hs : SH a = .inr (t, len)) : t < 4 ∧ len < 1000000 := by
  have h1 := sh_t a (by have : NCELL = 119 := rfl; omega)
  rw [hs] at h1
  exact of_decide_eq_true h1
theorem tys_at {E : pE} {t : Nat} (h : t < 4) : ∃ ty, (tysE E)[t]? = some (E.2.1 t, ty) := by
  rcases t with _ | _ | _ | _ | t
  · exact ⟨_, rfl⟩
  · exact ⟨_, rfl⟩
  · exact ⟨_, rfl⟩
  · exact ⟨_, rfl⟩
  · omega
theorem aln_cs {M : pM} {n a : Nat} (hn : n ≤ NCELL) (h : 0 ≤ aln M n a 0) : (a < n ∧ aln M n a 0 = alw n a 0) ∨ (1000 ≤ a ∧ a ≤ 1002 ∧ aln M n a 0 = aln M 0 a 0) := by
  have hN : NCELL = 119 := rfl
  unfold aln at h ⊢
  by_cases h1 : a = 1002
  · right; subst h1; simp
  · by_cases h2 : a = 1000 ∨ a = 1001
    · right; rcases h2 with rfl | rfl <;> simp
    · left
      simp [h1, h2] at h ⊢
      obtain ⟨len, h3, -⟩ := alw_of h
      exact h3
theorem ar_at {E : pE} {n a t len : Nat} {M : pM} (han : a < n) (hsh : SH a = .inr (t, len)) (ht : t ≠ 1) : (wsO E n M)[a]? = some (E.2.2.2 + a, .inl (E.2.1 t, len, .inl (fun i => Int32.ofInt (M a i)))) := by
  rw [wsO_at han, hsh]
  show some (E.2.2.2 + a, Sum.inl (E.2.1 t, len, if t = 1 then _ else _)) = _
  rw [if_neg ht]
theorem ar_at1 {E : pE} {n a len : Nat} {M : pM} (han : a < n) (hsh : SH a = .inr (1, len)) : (wsO E n M)[a]? = some (E.2.2.2 + a, .inl (E.2.1 1, len, .inr (.inl (fun i => Int64.ofInt (M a i))))) := by
  rw [wsO_at han, hsh]
  rfl
theorem ar_set {E : pE} {n a t len k : Nat} {M : pM} {v : Int} {w : Int32} (han : a < n) (hsh : SH a = .inr (t, len)) (ht : t ≠ 1) (hw : w = Int32.ofInt v) : (wsO E n M).set a (E.2.2.2 + a, .inl (E.2.1 t, len, .inl (upd (fun i => Int32.ofInt (M a i)) k w))) = wsO E n (st M a k v) := by
  refine wsO_set han (fun b hb => st_row hb) ?_
  rw [hsh]
  show _ = Sum.inl (E.2.1 t, len, if t = 1 then _ else _)
  rw [if_neg ht]
  congr 3
  congr 1
  funext i
  by_cases hi : i = k
  · subst hi; rw [st_at, pk_us, hw]
  · rw [st_ne hi, pk_un hi]
theorem ar_set1 {E : pE} {n a len k : Nat} {M : pM} {v : Int} {w : Int64} (han : a < n) (hsh : SH a = .inr (1, len)) (hw : w = Int64.ofInt v) : (wsO E n M).set a (E.2.2.2 + a, .inl (E.2.1 1, len, .inr (.inl (vp_updL (fun i => Int64.ofInt (M a i)) k w)))) = wsO E n (st M a k v) := by
  refine wsO_set han (fun b hb => st_row hb) ?_
  rw [hsh]
  show _ = Sum.inl (E.2.1 1, len, Sum.inr (Sum.inl _))
  congr 4
  congr 1
  funext i
  by_cases hi : i = k
  · subst hi; rw [st_at, pk_uLs, hw]
  · rw [st_ne hi, pk_uLn hi]
theorem wf_arr {M : pM} {a t len i : Nat} (hM : wfM M) (hsh : SH a = .inr (t, len)) (ht : t ≠ 1) : r32 (M a i) := by
  have h := hM a i
  unfold slT at h
  rw [hsh] at h
  simp only [if_neg ht] at h
  exact h
theorem wf_ro {M : pM} {a i : Nat} (hM : wfM M) (ha : 1000 ≤ a) : r32 (M a i) := by
  have h := hM a i
  have hs : SH a = .inl 99 := by
    unfold SH
    rw [List.getD_eq_getElem?_getD, List.getElem?_eq_none (by have : SHL.length = 119 := rfl; omega)]
    rfl
  unfold slT at h
  rw [hs] at h
  exact h
set_option maxHeartbeats 4000000 in
theorem snd_iald {E : pE} {j n0 r : Nat} {Me : pM} {p : Program} {l : Launch} {e : Env} {R : Room} {s : State} {m : MethodId} {args : Array Value} {below : List Frame} {meth : Method} {c : Code} {Qw : State → Prop} (F : Fx E j n0 r Me p R s m args meth c)
    {pc : Nat} {L : pL} {S : List pv} {n : Nat} {M : pM} {S' : List pv} {a : Nat} {x : Int} (hd : decode (mB j) pc = .ok (.iaload, 1)) (h0 : 0 ≤ x) (h1 : x < aln M n a 0) (k : Sm E j n0 Me p l e R s m args below meth c Qw (pc + 1) L (vi (M a x.toNat) :: S') n M) : Sm E j n0 Me p l e R s m args below meth c Qw pc L (vi x :: vr (a + 1) :: S') n M := by
  intro hn1 hn2 hL hS hM hro hLl H locs ls hl hw hSS
  obtain ⟨hx, hb, hml, hown, hts, hK, hRO, hini, hRm, hRf, hsz, had, hr, hNC⟩ := F
  have hx0 : r32 x := wfS_h hS
  have hS' := wfS_t (wfS_t hS)
  have hn : n ≤ NCELL := by omega
  rcases aln_cs hn (by omega : 0 ≤ aln M n a 0) with ⟨han, hal⟩ | ⟨ha1, ha2, hal⟩
  · obtain ⟨len, -, hsh, hle⟩ := alw_of (n := n) (a := a) (t := 0) (by omega)
    have K := k hn1 hn2 hL (wfS_c (wf_arr hM hsh (by omega)) hS') hM hro hLl H locs ls hl hw hSS
    have hst : (vi x :: vr (a + 1) :: S').map (cv E.2.2.1) = .int (Int32.ofInt x) :: .ref (E.2.2.2 + a) :: S'.map (cv E.2.2.1) := by show _ :: Value.ref (E.2.2.1 a) :: _ = _; rw [had a (ncell_lt hn2 hNC han)]; rfl
    rw [hst]
    refine va_iald hx hb hK.1 hw a 0 (ar_at han hsh (by omega)) rfl (vin hx0 h0 (by omega)) hd ?_
    rw [i32_cl hx0 h0]
    exact K
  · have hX := hRO.1 a ha1 ha2
    have K := k hn1 hn2 hL (wfS_c (wf_ro hM ha1) hS') hM hro hLl H locs ls hl hw hSS
    have hal' : aln M n a 0 = aln Me 0 a 0 := by rw [hal]; unfold aln; rw [hro 1003 (by omega)]
    refine va_ti hx hb hX hSS (vin hx0 h0 (by omega)) (v := .int (Int32.ofInt (M a x.toNat))) ?_ hd K
    show Value.int (Int32.ofInt (Me a (Int32.ofInt x).toNatClampNeg)) = _
    rw [i32_cl hx0 h0, ← hro a ha1]
set_option maxHeartbeats 4000000 in
theorem snd_lald {E : pE} {j n0 r : Nat} {Me : pM} {p : Program} {l : Launch} {e : Env} {R : Room} {s : State} {m : MethodId} {args : Array Value} {below : List Frame} {meth : Method} {c : Code} {Qw : State → Prop} (F : Fx E j n0 r Me p R s m args meth c)
    {pc : Nat} {L : pL} {S : List pv} {n : Nat} {M : pM} {S' : List pv} {a : Nat} {x : Int} (hd : decode (mB j) pc = .ok (.laload, 1)) (h0 : 0 ≤ x) (h1 : x < alw n a 1) (k : Sm E j n0 Me p l e R s m args below meth c Qw (pc + 1) L (vl (M a x.toNat) :: S') n M) : Sm E j n0 Me p l e R s m args below meth c Qw pc L (vi x :: vr (a + 1) :: S') n M := by
  intro hn1 hn2 hL hS hM hro hLl H locs ls hl hw hSS
  obtain ⟨hx, hb, hml, hown, hts, hK, hRO, hini, hRm, hRf, hsz, had, hr, hNC⟩ := F
  have hx0 : r32 x := wfS_h hS
  have hS' := wfS_t (wfS_t hS)
  obtain ⟨len, han, hsh, hle⟩ := alw_of (n := n) (a := a) (t := 1) (by omega)
  have hwf : r64 (M a x.toNat) := by have h := hM a x.toNat; unfold slT at h; rw [hsh] at h; exact h
  have K := k hn1 hn2 hL (wfS_c hwf hS') hM hro hLl H locs ls hl hw hSS
  have hst : (vi x :: vr (a + 1) :: S').map (cv E.2.2.1) = .int (Int32.ofInt x) :: .ref (E.2.2.2 + a) :: S'.map (cv E.2.2.1) := by show _ :: Value.ref (E.2.2.1 a) :: _ = _; rw [had a (ncell_lt hn2 hNC han)]; rfl
  rw [hst]
  refine va_lald hx hb hK.1 hw a 1 (ar_at1 han hsh) rfl (vin hx0 h0 (by omega)) hd ?_
  rw [i32_cl hx0 h0]
  exact K
set_option maxHeartbeats 4000000 in
theorem snd_bald {E : pE} {j n0 r : Nat} {Me : pM} {p : Program} {l : Launch} {e : Env} {R : Room} {s : State} {m : MethodId} {args : Array Value} {below : List Frame} {meth : Method} {c : Code} {Qw : State → Prop} (F : Fx E j n0 r Me p R s m args meth c)
    {pc : Nat} {L : pL} {S : List pv} {n : Nat} {M : pM} {S' : List pv} {a : Nat} {x : Int} (hd : decode (mB j) pc = .ok (.baload, 1)) (h0 : 0 ≤ x) (h1 : x < alw n a 2 ∨ x < alw n a 3) (k : Sm E j n0 Me p l e R s m args below meth c Qw (pc + 1) L (vi (M a x.toNat) :: S') n M) : Sm E j n0 Me p l e R s m args below meth c Qw pc L (vi x :: vr (a + 1) :: S') n M := by
  intro hn1 hn2 hL hS hM hro hLl H locs ls hl hw hSS
  obtain ⟨hx, hb, hml, hown, hts, hK, hRO, hini, hRm, hRf, hsz, had, hr, hNC⟩ := F
  have hx0 : r32 x := wfS_h hS
  have hS' := wfS_t (wfS_t hS)
  rcases h1 with h1 | h1
  · obtain ⟨len, han, hsh, hle⟩ := alw_of (n := n) (a := a) (t := 2) (by omega)
    have K := k hn1 hn2 hL (wfS_c (wf_arr hM hsh (by omega)) hS') hM hro hLl H locs ls hl hw hSS
    have hst : (vi x :: vr (a + 1) :: S').map (cv E.2.2.1) = .int (Int32.ofInt x) :: .ref (E.2.2.2 + a) :: S'.map (cv E.2.2.1) := by show _ :: Value.ref (E.2.2.1 a) :: _ = _; rw [had a (ncell_lt hn2 hNC han)]; rfl
    rw [hst]
    refine va_bald hx hb hK.1 hw a 2 (ar_at han hsh (by omega)) rfl (vin hx0 h0 (by omega)) hd ?_
    rw [i32_cl hx0 h0]
    exact K
  · obtain ⟨len, han, hsh, hle⟩ := alw_of (n := n) (a := a) (t := 3) (by omega)
    have K := k hn1 hn2 hL (wfS_c (wf_arr hM hsh (by omega)) hS') hM hro hLl H locs ls hl hw hSS
    have hst : (vi x :: vr (a + 1) :: S').map (cv E.2.2.1) = .int (Int32.ofInt x) :: .ref (E.2.2.2 + a) :: S'.map (cv E.2.2.1) := by show _ :: Value.ref (E.2.2.1 a) :: _ = _; rw [had a (ncell_lt hn2 hNC han)]; rfl
    rw [hst]
    refine va_zald hx hb hK.1 hw a 3 (ar_at han hsh (by omega)) rfl (vin hx0 h0 (by omega)) hd ?_
    rw [i32_cl hx0 h0]
    exact K
set_option maxHeartbeats 4000000 in
theorem snd_iast {E : pE} {j n0 r : Nat} {Me : pM} {p : Program} {l : Launch} {e : Env} {R : Room} {s : State} {m : MethodId} {args : Array Value} {below : List Frame} {meth : Method} {c : Code} {Qw : State → Prop} (F : Fx E j n0 r Me p R s m args meth c)
    {pc : Nat} {L : pL} {S : List pv} {n : Nat} {M : pM} {S' : List pv} {a : Nat} {x v : Int} (hd : decode (mB j) pc = .ok (.iastore, 1)) (h0 : 0 ≤ x) (h1 : x < alw n a 0) (k : Sm E j n0 Me p l e R s m args below meth c Qw (pc + 1) L S' n (st M a x.toNat v)) : Sm E j n0 Me p l e R s m args below meth c Qw pc L (vi v :: vi x :: vr (a + 1) :: S') n M := by
  intro hn1 hn2 hL hS hM hro hLl H locs ls hl hw hSS
  obtain ⟨hx, hb, hml, hown, hts, hK, hRO, hini, hRm, hRf, hsz, had, hr, hNC⟩ := F
  have hv0 := wfS_h hS
  have hx0 : r32 x := wfS_h (wfS_t hS)
  have hS' := wfS_t (wfS_t (wfS_t hS))
  obtain ⟨len, han, hsh, hle⟩ := alw_of (n := n) (a := a) (t := 0) (by omega)
  have hM' : wfM (st M a x.toNat v) := st_wf hM (by unfold slT; rw [hsh]; exact hv0)
  have hro' : ∀ b, 1000 ≤ b → st M a x.toNat v b = Me b := fun b hb => by rw [st_row (by have := ncell_lt hn2 hNC han; omega)]; exact hro b hb
  have hst : (vi v :: vi x :: vr (a + 1) :: S').map (cv E.2.2.1) = cv E.2.2.1 (vi v) :: .int (Int32.ofInt x) :: .ref (E.2.2.2 + a) :: S'.map (cv E.2.2.1) := by show _ :: _ :: Value.ref (E.2.2.1 a) :: _ = _; rw [had a (ncell_lt hn2 hNC han)]; rfl
  rw [hst]
  refine va_iast hx hb hK.1 hw (wsO_D E n M) hSS a 0 (ar_at han hsh (by omega)) rfl (vin hx0 h0 (by omega)) hd (fun H1 locs1 h2 h3 h4 => ?_)
  rw [i32_cl hx0 h0, ar_set han hsh (by omega) rfl] at h2
  exact k hn1 hn2 hL hS' hM' hro' hLl H1 locs1 ls hl h2 h4
set_option maxHeartbeats 4000000 in
theorem snd_last {E : pE} {j n0 r : Nat} {Me : pM} {p : Program} {l : Launch} {e : Env} {R : Room} {s : State} {m : MethodId} {args : Array Value} {below : List Frame} {meth : Method} {c : Code} {Qw : State → Prop} (F : Fx E j n0 r Me p R s m args meth c)
    {pc : Nat} {L : pL} {S : List pv} {n : Nat} {M : pM} {S' : List pv} {a : Nat} {x v : Int} (hd : decode (mB j) pc = .ok (.lastore, 1)) (h0 : 0 ≤ x) (h1 : x < alw n a 1) (k : Sm E j n0 Me p l e R s m args below meth c Qw (pc + 1) L S' n (st M a x.toNat v)) : Sm E j n0 Me p l e R s m args below meth c Qw pc L (vl v :: vi x :: vr (a + 1) :: S') n M := by
  intro hn1 hn2 hL hS hM hro hLl H locs ls hl hw hSS
  obtain ⟨hx, hb, hml, hown, hts, hK, hRO, hini, hRm, hRf, hsz, had, hr, hNC⟩ := F
  have hv0 := wfS_h hS
  have hx0 : r32 x := wfS_h (wfS_t hS)
  have hS' := wfS_t (wfS_t (wfS_t hS))
  obtain ⟨len, han, hsh, hle⟩ := alw_of (n := n) (a := a) (t := 1) (by omega)
  have hM' : wfM (st M a x.toNat v) := st_wf hM (by unfold slT; rw [hsh]; exact hv0)
  have hro' : ∀ b, 1000 ≤ b → st M a x.toNat v b = Me b := fun b hb => by rw [st_row (by have := ncell_lt hn2 hNC han; omega)]; exact hro b hb
  have hst : (vl v :: vi x :: vr (a + 1) :: S').map (cv E.2.2.1) = cv E.2.2.1 (vl v) :: .int (Int32.ofInt x) :: .ref (E.2.2.2 + a) :: S'.map (cv E.2.2.1) := by show _ :: _ :: Value.ref (E.2.2.1 a) :: _ = _; rw [had a (ncell_lt hn2 hNC han)]; rfl
  rw [hst]
  refine va_last hx hb hK.1 hw (wsO_D E n M) hSS a 1 (ar_at1 han hsh) rfl (vin hx0 h0 (by omega)) hd (fun H1 locs1 h2 h3 h4 => ?_)
  rw [i32_cl hx0 h0, ar_set1 han hsh rfl] at h2
  exact k hn1 hn2 hL hS' hM' hro' hLl H1 locs1 ls hl h2 h4
set_option maxHeartbeats 4000000 in
theorem snd_bast {E : pE} {j n0 r : Nat} {Me : pM} {p : Program} {l : Launch} {e : Env} {R : Room} {s : State} {m : MethodId} {args : Array Value} {below : List Frame} {meth : Method} {c : Code} {Qw : State → Prop} (F : Fx E j n0 r Me p R s m args meth c)
    {pc : Nat} {L : pL} {S : List pv} {n : Nat} {M : pM} {S' : List pv} {a : Nat} {x v : Int} (hd : decode (mB j) pc = .ok (.bastore, 1)) (h0 : 0 ≤ x) (h1 : x < alw n a 2) (k : Sm E j n0 Me p l e R s m args below meth c Qw (pc + 1) L S' n (st M a x.toNat (w8 v))) : Sm E j n0 Me p l e R s m args below meth c Qw pc L (vi v :: vi x :: vr (a + 1) :: S') n M := by
  intro hn1 hn2 hL hS hM hro hLl H locs ls hl hw hSS
  obtain ⟨hx, hb, hml, hown, hts, hK, hRO, hini, hRm, hRf, hsz, had, hr, hNC⟩ := F
  have hv0 := wfS_h hS
  have hx0 : r32 x := wfS_h (wfS_t hS)
  have hS' := wfS_t (wfS_t (wfS_t hS))
  obtain ⟨len, han, hsh, hle⟩ := alw_of (n := n) (a := a) (t := 2) (by omega)
  have hM' : wfM (st M a x.toNat (w8 v)) := st_wf hM (by unfold slT; rw [hsh]; exact w8_r _)
  have hro' : ∀ b, 1000 ≤ b → st M a x.toNat (w8 v) b = Me b := fun b hb => by rw [st_row (by have := ncell_lt hn2 hNC han; omega)]; exact hro b hb
  have hst : (vi v :: vi x :: vr (a + 1) :: S').map (cv E.2.2.1) = cv E.2.2.1 (vi v) :: .int (Int32.ofInt x) :: .ref (E.2.2.2 + a) :: S'.map (cv E.2.2.1) := by show _ :: _ :: Value.ref (E.2.2.1 a) :: _ = _; rw [had a (ncell_lt hn2 hNC han)]; rfl
  rw [hst]
  refine va_bast hx hb hK.1 hw (wsO_D E n M) hSS a 2 (ar_at han hsh (by omega)) rfl (vin hx0 h0 (by omega)) hd (fun H1 locs1 h2 h3 h4 => ?_)
  rw [i32_cl hx0 h0, ar_set (v := w8 v) han hsh (by omega) (by rw [vp_nar_byte, i32_8])] at h2
  exact k hn1 hn2 hL hS' hM' hro' hLl H1 locs1 ls hl h2 h4
set_option maxHeartbeats 4000000 in
theorem snd_zast {E : pE} {j n0 r : Nat} {Me : pM} {p : Program} {l : Launch} {e : Env} {R : Room} {s : State} {m : MethodId} {args : Array Value} {below : List Frame} {meth : Method} {c : Code} {Qw : State → Prop} (F : Fx E j n0 r Me p R s m args meth c)
    {pc : Nat} {L : pL} {S : List pv} {n : Nat} {M : pM} {S' : List pv} {a : Nat} {x v : Int} (hd : decode (mB j) pc = .ok (.bastore, 1)) (h0 : 0 ≤ x) (h1 : x < alw n a 3) (hz : v = 0 ∨ v = 1) (k : Sm E j n0 Me p l e R s m args below meth c Qw (pc + 1) L S' n (st M a x.toNat v)) : Sm E j n0 Me p l e R s m args below meth c Qw pc L (vi v :: vi x :: vr (a + 1) :: S') n M := by
  intro hn1 hn2 hL hS hM hro hLl H locs ls hl hw hSS
  obtain ⟨hx, hb, hml, hown, hts, hK, hRO, hini, hRm, hRf, hsz, had, hr, hNC⟩ := F
  have hv0 := wfS_h hS
  have hx0 : r32 x := wfS_h (wfS_t hS)
  have hS' := wfS_t (wfS_t (wfS_t hS))
  obtain ⟨len, han, hsh, hle⟩ := alw_of (n := n) (a := a) (t := 3) (by omega)
  have hM' : wfM (st M a x.toNat v) := st_wf hM (by unfold slT; rw [hsh]; exact hv0)
  have hro' : ∀ b, 1000 ≤ b → st M a x.toNat v b = Me b := fun b hb => by rw [st_row (by have := ncell_lt hn2 hNC han; omega)]; exact hro b hb
  have hst : (vi v :: vi x :: vr (a + 1) :: S').map (cv E.2.2.1) = cv E.2.2.1 (vi v) :: .int (Int32.ofInt x) :: .ref (E.2.2.2 + a) :: S'.map (cv E.2.2.1) := by show _ :: _ :: Value.ref (E.2.2.1 a) :: _ = _; rw [had a (ncell_lt hn2 hNC han)]; rfl
  rw [hst]
  refine va_zast hx hb hK.1 hw (wsO_D E n M) hSS a 3 (ar_at han hsh (by omega)) rfl (vin hx0 h0 (by omega)) hd (fun H1 locs1 h2 h3 h4 => ?_)
  rw [i32_cl hx0 h0, ar_set (v := v) han hsh (by omega) (by rcases hz with rfl | rfl <;> rfl)] at h2
  exact k hn1 hn2 hL hS' hM' hro' hLl H1 locs1 ls hl h2 h4
set_option maxHeartbeats 4000000 in
theorem snd_alen {E : pE} {j n0 r : Nat} {Me : pM} {p : Program} {l : Launch} {e : Env} {R : Room} {s : State} {m : MethodId} {args : Array Value} {below : List Frame} {meth : Method} {c : Code} {Qw : State → Prop} (F : Fx E j n0 r Me p R s m args meth c)
    {pc : Nat} {L : pL} {S : List pv} {n : Nat} {M : pM} {S' : List pv} {a t : Nat} (hd : decode (mB j) pc = .ok (.arraylength, 1)) (h0 : 0 ≤ aln M n a t) (k : Sm E j n0 Me p l e R s m args below meth c Qw (pc + 1) L (vi (aln M n a t) :: S') n M) : Sm E j n0 Me p l e R s m args below meth c Qw pc L (vr (a + 1) :: S') n M := by
  intro hn1 hn2 hL hS hM hro hLl H locs ls hl hw hSS
  obtain ⟨hx, hb, hml, hown, hts, hK, hRO, hini, hRm, hRf, hsz, had, hr, hNC⟩ := F
  have hS' := wfS_t hS
  have hn : n ≤ NCELL := by omega
  have hN : NCELL = 119 := rfl
  by_cases hz : 1000 ≤ a ∧ a ≤ 1002 ∧ t = 0
  · obtain ⟨ha1, ha2, rfl⟩ := hz
    rcases aln_cs hn h0 with ⟨han, hal⟩ | ⟨-, -, hal⟩
    · omega
    have hX := hRO.1 a ha1 ha2
    have hal' : aln M n a 0 = aln Me 0 a 0 := by rw [hal]; unfold aln; rw [hro 1003 (by omega)]
    have hr3 : r32 (aln M n a 0) := by
      rw [hal]
      unfold aln
      rcases (by omega : a = 1002 ∨ a = 1000 ∨ a = 1001) with rfl | rfl | rfl
      · simp only [and_self, if_true]; exact wf_ro hM (by omega)
      · simp [r32]
      · simp [r32]
    have K := k hn1 hn2 hL (wfS_c hr3 hS') hM hro hLl H locs ls hl hw hSS
    refine va_tlen hx hb hX hSS (v := Int32.ofInt (aln M n a 0)) ?_ hd K
    rw [hal']
    show Int32.ofInt ((aln Me 0 a 0).toNat : Int) = _
    rw [Int.toNat_of_nonneg (by omega)]
  · have hal : aln M n a t = alw n a t := by
      unfold aln
      rw [if_neg (by omega), if_neg (by omega)]
    obtain ⟨len, han, hsh, hle⟩ := alw_of (n := n) (a := a) (t := t) (by omega)
    obtain ⟨ht4, hl6⟩ := sh_t4 hn han hsh
    obtain ⟨ty, hty⟩ := tys_at (E := E) ht4
    rw [hal, hle] at k
    have K := k hn1 hn2 hL (wfS_c (show r32 (len : Int) by unfold r32; omega) hS') hM hro hLl H locs ls hl hw hSS
    have hst : (vr (a + 1) :: S').map (cv E.2.2.1) = .ref (E.2.2.2 + a) :: S'.map (cv E.2.2.1) := by show Value.ref (E.2.2.1 a) :: _ = _; rw [had a (ncell_lt hn2 hNC han)]
    rw [hst]
    exact va_alen hx hb hK.1 hw a t (x := (len, if t = 1 then .inr (.inl (fun i => Int64.ofInt (M a i))) else .inl (fun i => Int32.ofInt (M a i)))) (by rw [wsO_at han, hsh]; rfl) hty (v := Int32.ofInt (len : Int)) rfl hd K
end
section
theorem slL_mono {a b : Nat} (h : a ≤ b) : slL a ≤ slL b := by
  induction h with
  | refl => exact Nat.le_refl _
  | step _ ih => exact Nat.le_trans ih (by show _ ≤ slL _ + _; omega)
theorem q_new {E : pE} {n q : Nat} {M : pM} {x : va_E} (hD : va_D (AE E) (wsO E n M ++ [(q, x)])) (hq : q < E.2.2.2 + n + 1) : q = E.2.2.2 + n := by
  have hlen : (wsO E n M).length = n := by simp [wsO]
  have hn : (wsO E n M ++ [(q, x)])[n]? = some (q, x) := by rw [List.getElem?_append_right (by omega), hlen]; simp
  have h1 : E.2.2.2 ≤ q := hD.2 n _ hn
  rcases Nat.lt_or_ge q (E.2.2.2 + n) with h | h
  · have hk : (wsO E n M ++ [(q, x)])[q - E.2.2.2]? = some (E.2.2.2 + (q - E.2.2.2), ceO E (SH (q - E.2.2.2)) (M (q - E.2.2.2))) := by
      rw [List.getElem?_append_left (by omega), wsO_at (by omega)]
    have := hD.1 _ _ _ _ hk hn (by show E.2.2.2 + (q - E.2.2.2) = q; omega)
    omega
  · omega
theorem stk_cv (ad : Nat → Nat) (S : List pv) : ((S.map (cv ad)).map fun v => v.category).sum = stk S := by
  unfold stk
  rw [List.map_map]
  congr 1
  apply List.map_congr_left
  intro v _
  exact cat_cv ad v
def okT (ty : FieldType) : Bool := match ty with
  | .int => true
  | .long => true
  | .boolean => true
  | .object _ => true
  | .array _ => true
  | _ => false
theorem ty_kind : ∀ c, c < 13 → ∀ k, k < cN c → okT (tyA c k) = true := by decide +kernel
theorem new_sz : ∀ c, c < 13 → szS (.inl c) = cN c := fun _ _ => rfl
set_option maxHeartbeats 4000000 in
theorem snd_new_int {E : pE} {j n0 r : Nat} {Me : pM} {p : Program} {l : Launch} {e : Env} {R : Room} {s : State} {m : MethodId} {args : Array Value} {below : List Frame} {meth : Method} {c : Code} {Qw : State → Prop} (F : Fx E j n0 r Me p R s m args meth c)
    {pc : Nat} {L : pL} {S : List pv} {n : Nat} {M : pM} {S' : List pv} {x : Int} (hd : decode (mB j) pc = .ok (.newarray .int, 2)) (hlt : n + 1 ≤ n0 + mC j) (hsh : SH n = .inr (0, x.toNat)) (h0 : 0 ≤ x) (h1 : x ≤ 1000000) (k : Sm E j n0 Me p l e R s m args below meth c Qw (pc + 2) L (vr (n + 1) :: S') (n + 1) (zr M n)) : Sm E j n0 Me p l e R s m args below meth c Qw pc L (vi x :: S') n M := by
  intro hn1 hn2 hL hS hM hro hLl H locs ls hl hw hSS
  obtain ⟨hx, hb, hml, hown, hts, hK, hRO, hini, hRm, hRf, hsz, had, hr, hNC⟩ := F
  have hx0 : r32 x := wfS_h hS
  have hN : NCELL = 119 := rfl
  have hsl : slL (n + 1) = slL n + x.toNat := by show slL n + szS (SH n) = _; rw [hsh]; rfl
  have hm1 := slL_mono hn1
  have hm2 := slL_mono hlt
  have hz : ∀ i, zr M n n i = 0 := fun i => by simp [zr]
  refine va_newa (atype := .int) (ty := .int) (N' := x.toNat) (a0 := (x.toNat, .inl (fun i => Int32.ofInt (zr M n n i)))) hx hb (hts _ (chk_ok ac_in0 (0, .int) (by simp)) rfl) rfl hK.1 hw (wsO_D E n M) hSS (fun q hq => by show E.2.2.2 ≤ q; omega) (fun cA => by rw [vp_cell_i]; simp only [hz]; rfl) (fun q => by rw [show (0 : Int32) = Int32.ofInt 0 from rfl, i32_lt hx0 r32_0] at q; omega) (i32_cl hx0 h0) (by show x.toNat * 4 ≤ _; omega) (by omega) (by omega) hd (fun q cA H1 hK1 hP1 hD1 hS1 => ?_)
  have hcA : cA = E.2.1 0 := Option.some.inj ((hK1.2 4 _ rfl).2.symm.trans (hK.1.2 0 _ rfl).2)
  subst hcA
  intro T hT X
  have hlen : (wsO E n M).length = n := by simp [wsO]
  have hqs : q < H1.size := (hP1 n (q, _) (by rw [List.getElem?_append_right (by omega), hlen]; simp; rfl)).lt
  have hhs := X.heapSize
  rw [hT] at hhs
  have hq : q = E.2.2.2 + n := q_new hD1 (by omega)
  subst hq
  rw [wsO_succ (M' := zr M n) (fun a ha => zr_row (by omega)) (by rw [hsh]; rfl)] at hP1
  have K := k (by omega) (by omega) hL (wfS_c (show n + 1 ≤ 5000 by omega) (wfS_t hS)) (zr_wf hM) (fun a ha => by rw [zr_row (by omega)]; exact hro a ha) hLl H1 locs ls hl hP1 hS1
  rw [show n + 1 - n0 = n - n0 + 1 by omega, hsl, show slL n + x.toNat - slL n0 = slL n - slL n0 + x.toNat by omega] at K
  have hst : (vr (n + 1) :: S').map (cv E.2.2.1) = .ref (E.2.2.2 + n) :: S'.map (cv E.2.2.1) := by show Value.ref (E.2.2.1 n) :: _ = _; rw [had n (by omega)]
  rw [hst] at K
  exact K T hT X
set_option maxHeartbeats 4000000 in
theorem snd_new_long {E : pE} {j n0 r : Nat} {Me : pM} {p : Program} {l : Launch} {e : Env} {R : Room} {s : State} {m : MethodId} {args : Array Value} {below : List Frame} {meth : Method} {c : Code} {Qw : State → Prop} (F : Fx E j n0 r Me p R s m args meth c)
    {pc : Nat} {L : pL} {S : List pv} {n : Nat} {M : pM} {S' : List pv} {x : Int} (hd : decode (mB j) pc = .ok (.newarray .long, 2)) (hlt : n + 1 ≤ n0 + mC j) (hsh : SH n = .inr (1, x.toNat)) (h0 : 0 ≤ x) (h1 : x ≤ 1000000) (k : Sm E j n0 Me p l e R s m args below meth c Qw (pc + 2) L (vr (n + 1) :: S') (n + 1) (zr M n)) : Sm E j n0 Me p l e R s m args below meth c Qw pc L (vi x :: S') n M := by
  intro hn1 hn2 hL hS hM hro hLl H locs ls hl hw hSS
  obtain ⟨hx, hb, hml, hown, hts, hK, hRO, hini, hRm, hRf, hsz, had, hr, hNC⟩ := F
  have hx0 : r32 x := wfS_h hS
  have hN : NCELL = 119 := rfl
  have hsl : slL (n + 1) = slL n + x.toNat := by show slL n + szS (SH n) = _; rw [hsh]; rfl
  have hm1 := slL_mono hn1
  have hm2 := slL_mono hlt
  have hz : ∀ i, zr M n n i = 0 := fun i => by simp [zr]
  refine va_newa (atype := .long) (ty := .long) (N' := x.toNat) (a0 := (x.toNat, .inr (.inl (fun i => Int64.ofInt (zr M n n i))))) hx hb (hts _ (chk_ok ac_in0 (1, .long) (by simp)) rfl) rfl hK.1 hw (wsO_D E n M) hSS (fun q hq => by show E.2.2.2 ≤ q; omega) (fun cA => by rw [vp_cell_l]; simp only [hz]; rfl) (fun q => by rw [show (0 : Int32) = Int32.ofInt 0 from rfl, i32_lt hx0 r32_0] at q; omega) (i32_cl hx0 h0) (by show x.toNat * 8 ≤ _; omega) (by omega) (by omega) hd (fun q cA H1 hK1 hP1 hD1 hS1 => ?_)
  have hcA : cA = E.2.1 1 := Option.some.inj ((hK1.2 4 _ rfl).2.symm.trans (hK.1.2 1 _ rfl).2)
  subst hcA
  intro T hT X
  have hlen : (wsO E n M).length = n := by simp [wsO]
  have hqs : q < H1.size := (hP1 n (q, _) (by rw [List.getElem?_append_right (by omega), hlen]; simp; rfl)).lt
  have hhs := X.heapSize
  rw [hT] at hhs
  have hq : q = E.2.2.2 + n := q_new hD1 (by omega)
  subst hq
  rw [wsO_succ (M' := zr M n) (fun a ha => zr_row (by omega)) (by rw [hsh]; rfl)] at hP1
  have K := k (by omega) (by omega) hL (wfS_c (show n + 1 ≤ 5000 by omega) (wfS_t hS)) (zr_wf hM) (fun a ha => by rw [zr_row (by omega)]; exact hro a ha) hLl H1 locs ls hl hP1 hS1
  rw [show n + 1 - n0 = n - n0 + 1 by omega, hsl, show slL n + x.toNat - slL n0 = slL n - slL n0 + x.toNat by omega] at K
  have hst : (vr (n + 1) :: S').map (cv E.2.2.1) = .ref (E.2.2.2 + n) :: S'.map (cv E.2.2.1) := by show Value.ref (E.2.2.1 n) :: _ = _; rw [had n (by omega)]
  rw [hst] at K
  exact K T hT X
set_option maxHeartbeats 4000000 in
theorem snd_new_byte {E : pE} {j n0 r : Nat} {Me : pM} {p : Program} {l : Launch} {e : Env} {R : Room} {s : State} {m : MethodId} {args : Array Value} {below : List Frame} {meth : Method} {c : Code} {Qw : State → Prop} (F : Fx E j n0 r Me p R s m args meth c)
    {pc : Nat} {L : pL} {S : List pv} {n : Nat} {M : pM} {S' : List pv} {x : Int} (hd : decode (mB j) pc = .ok (.newarray .byte, 2)) (hlt : n + 1 ≤ n0 + mC j) (hsh : SH n = .inr (2, x.toNat)) (h0 : 0 ≤ x) (h1 : x ≤ 1000000) (k : Sm E j n0 Me p l e R s m args below meth c Qw (pc + 2) L (vr (n + 1) :: S') (n + 1) (zr M n)) : Sm E j n0 Me p l e R s m args below meth c Qw pc L (vi x :: S') n M := by
  intro hn1 hn2 hL hS hM hro hLl H locs ls hl hw hSS
  obtain ⟨hx, hb, hml, hown, hts, hK, hRO, hini, hRm, hRf, hsz, had, hr, hNC⟩ := F
  have hx0 : r32 x := wfS_h hS
  have hN : NCELL = 119 := rfl
  have hsl : slL (n + 1) = slL n + x.toNat := by show slL n + szS (SH n) = _; rw [hsh]; rfl
  have hm1 := slL_mono hn1
  have hm2 := slL_mono hlt
  have hz : ∀ i, zr M n n i = 0 := fun i => by simp [zr]
  refine va_newa (atype := .byte) (ty := .byte) (N' := x.toNat) (a0 := (x.toNat, .inl (fun i => Int32.ofInt (zr M n n i)))) hx hb (hts _ (chk_ok ac_in0 (2, .byte) (by simp)) rfl) rfl hK.1 hw (wsO_D E n M) hSS (fun q hq => by show E.2.2.2 ≤ q; omega) (fun cA => by rw [vp_cell_i]; simp only [hz]; rfl) (fun q => by rw [show (0 : Int32) = Int32.ofInt 0 from rfl, i32_lt hx0 r32_0] at q; omega) (i32_cl hx0 h0) (by show x.toNat * 1 ≤ _; omega) (by omega) (by omega) hd (fun q cA H1 hK1 hP1 hD1 hS1 => ?_)
  have hcA : cA = E.2.1 2 := Option.some.inj ((hK1.2 4 _ rfl).2.symm.trans (hK.1.2 2 _ rfl).2)
  subst hcA
  intro T hT X
  have hlen : (wsO E n M).length = n := by simp [wsO]
  have hqs : q < H1.size := (hP1 n (q, _) (by rw [List.getElem?_append_right (by omega), hlen]; simp; rfl)).lt
  have hhs := X.heapSize
  rw [hT] at hhs
  have hq : q = E.2.2.2 + n := q_new hD1 (by omega)
  subst hq
  rw [wsO_succ (M' := zr M n) (fun a ha => zr_row (by omega)) (by rw [hsh]; rfl)] at hP1
  have K := k (by omega) (by omega) hL (wfS_c (show n + 1 ≤ 5000 by omega) (wfS_t hS)) (zr_wf hM) (fun a ha => by rw [zr_row (by omega)]; exact hro a ha) hLl H1 locs ls hl hP1 hS1
  rw [show n + 1 - n0 = n - n0 + 1 by omega, hsl, show slL n + x.toNat - slL n0 = slL n - slL n0 + x.toNat by omega] at K
  have hst : (vr (n + 1) :: S').map (cv E.2.2.1) = .ref (E.2.2.2 + n) :: S'.map (cv E.2.2.1) := by show Value.ref (E.2.2.1 n) :: _ = _; rw [had n (by omega)]
  rw [hst] at K
  exact K T hT X
set_option maxHeartbeats 4000000 in
theorem snd_new_boolean {E : pE} {j n0 r : Nat} {Me : pM} {p : Program} {l : Launch} {e : Env} {R : Room} {s : State} {m : MethodId} {args : Array Value} {below : List Frame} {meth : Method} {c : Code} {Qw : State → Prop} (F : Fx E j n0 r Me p R s m args meth c)
    {pc : Nat} {L : pL} {S : List pv} {n : Nat} {M : pM} {S' : List pv} {x : Int} (hd : decode (mB j) pc = .ok (.newarray .boolean, 2)) (hlt : n + 1 ≤ n0 + mC j) (hsh : SH n = .inr (3, x.toNat)) (h0 : 0 ≤ x) (h1 : x ≤ 1000000) (k : Sm E j n0 Me p l e R s m args below meth c Qw (pc + 2) L (vr (n + 1) :: S') (n + 1) (zr M n)) : Sm E j n0 Me p l e R s m args below meth c Qw pc L (vi x :: S') n M := by
  intro hn1 hn2 hL hS hM hro hLl H locs ls hl hw hSS
  obtain ⟨hx, hb, hml, hown, hts, hK, hRO, hini, hRm, hRf, hsz, had, hr, hNC⟩ := F
  have hx0 : r32 x := wfS_h hS
  have hN : NCELL = 119 := rfl
  have hsl : slL (n + 1) = slL n + x.toNat := by show slL n + szS (SH n) = _; rw [hsh]; rfl
  have hm1 := slL_mono hn1
  have hm2 := slL_mono hlt
  have hz : ∀ i, zr M n n i = 0 := fun i => by simp [zr]
  refine va_newa (atype := .boolean) (ty := .boolean) (N' := x.toNat) (a0 := (x.toNat, .inl (fun i => Int32.ofInt (zr M n n i)))) hx hb (hts _ (chk_ok ac_in0 (3, .boolean) (by simp)) rfl) rfl hK.1 hw (wsO_D E n M) hSS (fun q hq => by show E.2.2.2 ≤ q; omega) (fun cA => by rw [vp_cell_i]; simp only [hz]; rfl) (fun q => by rw [show (0 : Int32) = Int32.ofInt 0 from rfl, i32_lt hx0 r32_0] at q; omega) (i32_cl hx0 h0) (by show x.toNat * 1 ≤ _; omega) (by omega) (by omega) hd (fun q cA H1 hK1 hP1 hD1 hS1 => ?_)
  have hcA : cA = E.2.1 3 := Option.some.inj ((hK1.2 4 _ rfl).2.symm.trans (hK.1.2 3 _ rfl).2)
  subst hcA
  intro T hT X
  have hlen : (wsO E n M).length = n := by simp [wsO]
  have hqs : q < H1.size := (hP1 n (q, _) (by rw [List.getElem?_append_right (by omega), hlen]; simp; rfl)).lt
  have hhs := X.heapSize
  rw [hT] at hhs
  have hq : q = E.2.2.2 + n := q_new hD1 (by omega)
  subst hq
  rw [wsO_succ (M' := zr M n) (fun a ha => zr_row (by omega)) (by rw [hsh]; rfl)] at hP1
  have K := k (by omega) (by omega) hL (wfS_c (show n + 1 ≤ 5000 by omega) (wfS_t hS)) (zr_wf hM) (fun a ha => by rw [zr_row (by omega)]; exact hro a ha) hLl H1 locs ls hl hP1 hS1
  rw [show n + 1 - n0 = n - n0 + 1 by omega, hsl, show slL n + x.toNat - slL n0 = slL n - slL n0 + x.toNat by omega] at K
  have hst : (vr (n + 1) :: S').map (cv E.2.2.1) = .ref (E.2.2.2 + n) :: S'.map (cv E.2.2.1) := by show Value.ref (E.2.2.1 n) :: _ = _; rw [had n (by omega)]
  rw [hst] at K
  exact K T hT X
set_option maxHeartbeats 4000000 in
theorem snd_new {E : pE} {j n0 r : Nat} {Me : pM} {p : Program} {l : Launch} {e : Env} {R : Room} {s : State} {m : MethodId} {args : Array Value} {below : List Frame} {meth : Method} {c : Code} {Qw : State → Prop} (F : Fx E j n0 r Me p R s m args meth c)
    {pc : Nat} {L : pL} {S : List pv} {n : Nat} {M : pM} {ix : Nat} {q : Nat × Nat × Nat × Nat × Nat × Nat × Nat} (hq : q ∈ newL) (e1 : q.1 = mO j) (e2 : q.2.1 = ix) (hd : decode (mB j) pc = .ok (.new ix, 3)) (hlt : n + 1 ≤ n0 + mC j) (hsh : SH n = .inl q.2.2.1) (k : Sm E j n0 Me p l e R s m args below meth c Qw (pc + 3) L (vr (n + 1) :: S) (n + 1) (zr M n)) : Sm E j n0 Me p l e R s m args below meth c Qw pc L S n M := by
  intro hn1 hn2 hL hS hM hro hLl H locs ls hl hw hSS
  obtain ⟨hx, hb, hml, hown, hts, hK, hRO, hini, hRm, hRf, hsz, had, hr, hNC⟩ := F
  have hN : NCELL = 119 := rfl
  have hc := new_rg q hq
  have hsl : slL (n + 1) = slL n + cN q.2.2.1 := by show slL n + szS (SH n) = _; rw [hsh]; rfl
  have hm1 := slL_mono hn1
  have hm2 := slL_mono hlt
  have hz : ∀ i, zr M n n i = 0 := fun i => by simp [zr]
  subst e2
  refine va_new (ci := q.2.2.1) (fs := fsO E q.2.2.1 (zr M n n)) hx hb (lays_ok hts hc) (fun w h => h) (tyA q.2.2.1) (ty_ok _ hc) hown (by rw [← e1]; exact hts _ (chk_ok new_in1 q hq) rfl) (hts _ (chk_ok new_in2 q hq) rfl) (hts _ (chk_ok new_in3 q hq) rfl) hK.1 hw (wsO_D E n M) hSS (fun q hq => by show E.2.2.2 ≤ q; omega) (cl_ok _ hc) (fun i hi => ?_) (by omega) (by omega) hd (fun a H1 hP1 hD1 hS1 => ?_)
  · have h1 := ty_kind _ hc i hi
    show _ = (fsO E q.2.2.1 (zr M n n)).getD i .null
    rw [List.getD_eq_getElem?_getD, fsO_get hi, hz]
    cases hty : tyA q.2.2.1 i <;> rw [hty] at h1 <;> first | rfl | cases h1
  intro T hT X
  have hlen : (wsO E n M).length = n := by simp [wsO]
  have hqs : a < H1.size := (hP1 n (a, _) (by rw [List.getElem?_append_right (by omega), hlen]; simp; rfl)).lt
  have hhs := X.heapSize
  rw [hT] at hhs
  have hq : a = E.2.2.2 + n := q_new hD1 (by omega)
  subst hq
  rw [wsO_succ (M' := zr M n) (fun a ha => zr_row (by omega)) (by rw [hsh]; rfl)] at hP1
  have K := k (by omega) (by omega) hL (wfS_c (show n + 1 ≤ 5000 by omega) hS) (zr_wf hM) (fun a ha => by rw [zr_row (by omega)]; exact hro a ha) hLl H1 locs ls hl hP1 hS1
  rw [show n + 1 - n0 = n - n0 + 1 by omega, hsl, show slL n + cN q.2.2.1 - slL n0 = slL n - slL n0 + cN q.2.2.1 by omega] at K
  have hst : (vr (n + 1) :: S).map (cv E.2.2.1) = .ref (E.2.2.2 + n) :: S.map (cv E.2.2.1) := by show Value.ref (E.2.2.1 n) :: _ = _; rw [had n (by omega)]
  rw [hst] at K
  exact K T hT X
set_option maxHeartbeats 4000000 in
theorem snd_obj {E : pE} {j n0 r : Nat} {Me : pM} {p : Program} {l : Launch} {e : Env} {R : Room} {s : State} {m : MethodId} {args : Array Value} {below : List Frame} {meth : Method} {c : Code} {Qw : State → Prop} (F : Fx E j n0 r Me p R s m args meth c)
    {pc : Nat} {L : pL} {S : List pv} {n : Nat} {M : pM} {S' : List pv} {ix b : Nat} {q : Nat × Nat × Nat} (hq : q ∈ obiL) (e1 : q.1 = mO j) (e2 : q.2.1 = ix) (hd : decode (mB j) pc = .ok (.invokespecial ix, 3)) (hk : stk S' ≤ 8) (k : Sm E j n0 Me p l e R s m args below meth c Qw (pc + 3) L S' n M) : Sm E j n0 Me p l e R s m args below meth c Qw pc L (vr (b + 1) :: S') n M := by
  intro hn1 hn2 hL hS hM hro hLl H locs ls hl hw hSS
  obtain ⟨hx, hb, hml, hown, hts, hK, hRO, hini, hRm, hRf, hsz, had, hr, hNC⟩ := F
  have K := k hn1 hn2 hL (wfS_t hS) hM hro hLl H locs ls hl hw hSS
  subst e2
  have hroom := lv_room (m := m) (pc := pc) (ls := ls) (rest := (vr (b + 1) :: S').map (cv E.2.2.1)) (st := S'.map (cv E.2.2.1)) (by rw [stk_cv]; exact hk)
  exact W.objInit hx hb hown (by rw [← e1]; exact hts _ (chk_ok obi_in0 q hq) rfl) (hts _ obj_in.1 rfl) (hts _ obj_in.2 rfl) rfl (by rw [hml]; exact hl.1.trans hLl) (a := E.2.2.1 b) (rest := S'.map (cv E.2.2.1)) rfl hd (by omega) (by omega) K
theorem mth_max : ∀ i, i < 325 → mth i = 1 → i = 298 := by decide +kernel
theorem mth_max_y : mY 298 = Lib.Math.max.name ∧ mB 298 = Lib.Math.max.code ∧ mX 298 = 2 ∧ mR 298 = some .int := ⟨by decide +kernel, by decide +kernel, by decide +kernel, by decide +kernel⟩
set_option maxHeartbeats 4000000 in
theorem snd_max {E : pE} {j n0 r : Nat} {Me : pM} {p : Program} {l : Launch} {e : Env} {R : Room} {s : State} {m : MethodId} {args : Array Value} {below : List Frame} {meth : Method} {c : Code} {Qw : State → Prop} (F : Fx E j n0 r Me p R s m args meth c)
    {pc : Nat} {L : pL} {S : List pv} {n : Nat} {M : pM} {S' : List pv} {ix : Nat} {a b : Int} {q : Nat × Nat × Nat × Nat × Nat × Nat} (hq : q ∈ calL) (e1 : q.1 = mO j) (e2 : q.2.1 = ix) (hmt : mth q.2.2.2.1 = 1) (hne : ¬ q.2.2.2.2.2 = 1) (hd : decode (mB j) pc = .ok (.invokestatic ix, 3)) (hk : stk S' ≤ 8) (k : Sm E j n0 Me p l e R s m args below meth c Qw (pc + 3) L (vi (if a < b then b else a) :: S') n M) : Sm E j n0 Me p l e R s m args below meth c Qw pc L (vi b :: vi a :: S') n M := by
  intro hn1 hn2 hL hS hM hro hLl H locs ls hl hw hSS
  obtain ⟨hx, hb, hml, hown, hts, hK, hRO, hini, hRm, hRf, hsz, had, hr, hNC⟩ := F
  obtain ⟨hi, -⟩ := cal_rg q hq
  have hm1 := slL_mono hn1
  have hm2 := slL_mono hn2
  have hid := mth_max _ hi hmt
  have hwq : Cond.methodLink (RN q.1) q.2.1 (mY q.2.2.2.1) ∈ lw_tbl := by have h := chk_ok cal_in0 q hq; unfold calW at h; rw [if_neg hne] at h; exact h
  have hst := chk_ok mst_in0 q.2.2.2.1 (List.mem_range.mpr hi)
  have hin := chk_ok min_in0 q.2.2.2.1 (List.mem_range.mpr hi)
  have hco := mco_in q.2.2.2.1 hi
  rw [hid] at hwq hst hin hco
  obtain ⟨y1, y2, y3, y4⟩ := mth_max_y
  simp only [y1, y2, y3, y4] at hwq hst hin hco
  have hst : Cond.static Lib.Math.max.name ∈ lw_tbl := by simpa [show isSt 298 = true by decide +kernel] using hst
  subst e2
  have hbw : r32 b := wfS_h hS
  have ha : r32 a := wfS_h (wfS_t hS)
  have hS' := wfS_t (wfS_t hS)
  have hc1 := i32_lt ha hbw
  have K := k hn1 hn2 hL (wfS_c (show r32 _ by split <;> assumption) hS') hM hro hLl H locs ls hl hw hSS
  refine va_mmax hx hb (by rw [hml]; exact (hl.1.trans hLl).symm) hown (by rw [← e1]; exact hts _ hwq rfl) (hts _ hst rfl) (hts _ hin rfl) (hts _ hco rfl) (by omega) (by rw [stk_cv]; omega) (by omega) (by omega) hd ?_
  have e : (if Int32.ofInt a < Int32.ofInt b then Int32.ofInt b else Int32.ofInt a) = Int32.ofInt (if a < b then b else a) := by
    by_cases h : a < b
    · rw [if_pos (hc1.mpr h), if_pos h]
    · rw [if_neg (fun q => h (hc1.mp q)), if_neg h]
  rw [e]
  exact K
theorem mth_min : ∀ i, i < 325 → mth i = 2 → i = 299 := by decide +kernel
theorem mth_min_y : mY 299 = Lib.Math.min.name ∧ mB 299 = Lib.Math.min.code ∧ mX 299 = 2 ∧ mR 299 = some .int := ⟨by decide +kernel, by decide +kernel, by decide +kernel, by decide +kernel⟩
set_option maxHeartbeats 4000000 in
theorem snd_min {E : pE} {j n0 r : Nat} {Me : pM} {p : Program} {l : Launch} {e : Env} {R : Room} {s : State} {m : MethodId} {args : Array Value} {below : List Frame} {meth : Method} {c : Code} {Qw : State → Prop} (F : Fx E j n0 r Me p R s m args meth c)
    {pc : Nat} {L : pL} {S : List pv} {n : Nat} {M : pM} {S' : List pv} {ix : Nat} {a b : Int} {q : Nat × Nat × Nat × Nat × Nat × Nat} (hq : q ∈ calL) (e1 : q.1 = mO j) (e2 : q.2.1 = ix) (hmt : mth q.2.2.2.1 = 2) (hne : ¬ q.2.2.2.2.2 = 1) (hd : decode (mB j) pc = .ok (.invokestatic ix, 3)) (hk : stk S' ≤ 8) (k : Sm E j n0 Me p l e R s m args below meth c Qw (pc + 3) L (vi (if b < a then b else a) :: S') n M) : Sm E j n0 Me p l e R s m args below meth c Qw pc L (vi b :: vi a :: S') n M := by
  intro hn1 hn2 hL hS hM hro hLl H locs ls hl hw hSS
  obtain ⟨hx, hb, hml, hown, hts, hK, hRO, hini, hRm, hRf, hsz, had, hr, hNC⟩ := F
  obtain ⟨hi, -⟩ := cal_rg q hq
  have hm1 := slL_mono hn1
  have hm2 := slL_mono hn2
  have hid := mth_min _ hi hmt
  have hwq : Cond.methodLink (RN q.1) q.2.1 (mY q.2.2.2.1) ∈ lw_tbl := by have h := chk_ok cal_in0 q hq; unfold calW at h; rw [if_neg hne] at h; exact h
  have hst := chk_ok mst_in0 q.2.2.2.1 (List.mem_range.mpr hi)
  have hin := chk_ok min_in0 q.2.2.2.1 (List.mem_range.mpr hi)
  have hco := mco_in q.2.2.2.1 hi
  rw [hid] at hwq hst hin hco
  obtain ⟨y1, y2, y3, y4⟩ := mth_min_y
  simp only [y1, y2, y3, y4] at hwq hst hin hco
  have hst : Cond.static Lib.Math.min.name ∈ lw_tbl := by simpa [show isSt 299 = true by decide +kernel] using hst
  subst e2
  have hbw : r32 b := wfS_h hS
  have ha : r32 a := wfS_h (wfS_t hS)
  have hS' := wfS_t (wfS_t hS)
  have hc1 := i32_lt hbw ha
  have K := k hn1 hn2 hL (wfS_c (show r32 _ by split <;> assumption) hS') hM hro hLl H locs ls hl hw hSS
  refine va_mmin hx hb (by rw [hml]; exact (hl.1.trans hLl).symm) hown (by rw [← e1]; exact hts _ hwq rfl) (hts _ hst rfl) (hts _ hin rfl) (hts _ hco rfl) (by omega) (by rw [stk_cv]; omega) (by omega) (by omega) hd ?_
  have e : (if Int32.ofInt b < Int32.ofInt a then Int32.ofInt b else Int32.ofInt a) = Int32.ofInt (if b < a then b else a) := by
    by_cases h : b < a
    · rw [if_pos (hc1.mpr h), if_pos h]
    · rw [if_neg (fun q => h (hc1.mp q)), if_neg h]
  rw [e]
  exact K
theorem mth_abs : ∀ i, i < 325 → mth i = 3 → i = 297 := by decide +kernel
theorem mth_abs_y : mY 297 = Lib.Math.abs.name ∧ mB 297 = Lib.Math.abs.code ∧ mX 297 = 1 ∧ mR 297 = some .int := ⟨by decide +kernel, by decide +kernel, by decide +kernel, by decide +kernel⟩
set_option maxHeartbeats 4000000 in
theorem snd_abs {E : pE} {j n0 r : Nat} {Me : pM} {p : Program} {l : Launch} {e : Env} {R : Room} {s : State} {m : MethodId} {args : Array Value} {below : List Frame} {meth : Method} {c : Code} {Qw : State → Prop} (F : Fx E j n0 r Me p R s m args meth c)
    {pc : Nat} {L : pL} {S : List pv} {n : Nat} {M : pM} {S' : List pv} {ix : Nat} {a : Int} {q : Nat × Nat × Nat × Nat × Nat × Nat} (hq : q ∈ calL) (e1 : q.1 = mO j) (e2 : q.2.1 = ix) (hmt : mth q.2.2.2.1 = 3) (hne : ¬ q.2.2.2.2.2 = 1) (hd : decode (mB j) pc = .ok (.invokestatic ix, 3)) (hk : stk S' ≤ 8) (k : Sm E j n0 Me p l e R s m args below meth c Qw (pc + 3) L (vi (if 0 ≤ a then a else w32 (0 - a)) :: S') n M) : Sm E j n0 Me p l e R s m args below meth c Qw pc L (vi a :: S') n M := by
  intro hn1 hn2 hL hS hM hro hLl H locs ls hl hw hSS
  obtain ⟨hx, hb, hml, hown, hts, hK, hRO, hini, hRm, hRf, hsz, had, hr, hNC⟩ := F
  obtain ⟨hi, -⟩ := cal_rg q hq
  have hm1 := slL_mono hn1
  have hm2 := slL_mono hn2
  have hid := mth_abs _ hi hmt
  have hwq : Cond.methodLink (RN q.1) q.2.1 (mY q.2.2.2.1) ∈ lw_tbl := by have h := chk_ok cal_in0 q hq; unfold calW at h; rw [if_neg hne] at h; exact h
  have hst := chk_ok mst_in0 q.2.2.2.1 (List.mem_range.mpr hi)
  have hin := chk_ok min_in0 q.2.2.2.1 (List.mem_range.mpr hi)
  have hco := mco_in q.2.2.2.1 hi
  rw [hid] at hwq hst hin hco
  obtain ⟨y1, y2, y3, y4⟩ := mth_abs_y
  simp only [y1, y2, y3, y4] at hwq hst hin hco
  have hst : Cond.static Lib.Math.abs.name ∈ lw_tbl := by simpa [show isSt 297 = true by decide +kernel] using hst
  subst e2
  have ha : r32 a := wfS_h hS
  have hS' := wfS_t hS
  have hc1 : (0 : Int32) ≤ Int32.ofInt a ↔ 0 ≤ a := i32_le r32_0 ha
  have K := k hn1 hn2 hL (wfS_c (show r32 _ by split; exact ha; exact w32_r _) hS') hM hro hLl H locs ls hl hw hSS
  refine va_mabs hx hb (by rw [hml]; exact (hl.1.trans hLl).symm) hown (by rw [← e1]; exact hts _ hwq rfl) (hts _ hst rfl) (hts _ hin rfl) (hts _ hco rfl) (by omega) (by rw [stk_cv]; omega) (by omega) (by omega) hd ?_
  have e : (if (0 : Int32) ≤ Int32.ofInt a then Int32.ofInt a else 0 - Int32.ofInt a) = Int32.ofInt (if 0 ≤ a then a else w32 (0 - a)) := by
    by_cases h : 0 ≤ a
    · rw [if_pos (hc1.mpr h), if_pos h]
    · rw [if_neg (fun q => h (hc1.mp q)), if_neg h, i32_sub]; rfl
  rw [e]
  exact K
end
section
/-! ===== calls ===== -/
def TWD : List Cond := lw_tbl.filter goodWord
def wsM (i : Nat) : List Cond := .code (mY i) (mB i) (mX i) (mR i) :: TWD
def rmM (i n r : Nat) : Room := { frames := r, cells := mC i, slots := slL (n + mC i) - slL n, locals := 60 * r }
def PcM (E : pE) (a : List pv) (n : Nat) (M : pM) : Array Value → State → Prop := va_Pc (a.map (cv E.2.2.1)) (fun U => U.heap.size = E.2.2.2 + n ∧ va_P E.1 vwCl (wsO E n M) U.heap ∧ KU E U ∧ ROk E M U U.heap)
def QcM (E : pE) (i n : Nat) (M : pM) (Q : pQ) : Array Value → State → Outcome → State → Prop := match mR i with
  | none => va_Qv (fun M' : pM => Q none M' ∧ wfM M' ∧ ∀ a, 1000 ≤ a → M' a = M a) (fun M' t => va_P E.1 vwCl (wsO E (n + mC i) M') t.heap) (AE E)
  | some .long => va_Ql (fun (x : Int64) (u : Int × pM) => x = Int64.ofInt u.1 ∧ r64 u.1 ∧ Q (some (vl u.1)) u.2 ∧ wfM u.2 ∧ ∀ a, 1000 ≤ a → u.2 a = M a) (fun u t => va_P E.1 vwCl (wsO E (n + mC i) u.2) t.heap) (AE E)
  | _ => va_Qi (fun (x : Int32) (u : Int × pM) => x = Int32.ofInt u.1 ∧ r32 u.1 ∧ Q (some (vi u.1)) u.2 ∧ wfM u.2 ∧ ∀ a, 1000 ≤ a → u.2 a = M a) (fun u t => va_P E.1 vwCl (wsO E (n + mC i) u.2) t.heap) (AE E)
/-- what the pure machine takes for granted of the methods that are called, the machine does, in a room of r frames -/
def OS (l : Launch) (r : Nat) (O : pO) : Prop := ∀ (i : Nat) (a : List pv) (n : Nat) (M : pM) (Q : pQ), i < 325 → O i a n M Q → wfS a → wfM M → n + mC i ≤ NCELL → ∀ E : pE, (∀ k, k < 1000 → E.2.2.1 k = E.2.2.2 + k) →
  Met l (mY i) (wsM i) (rmM i n r) (PcM E a n M) (QcM E i n M Q) (mC i) (slL (n + mC i) - slL n) (AE E)
theorem mX_le : ∀ i, i < 325 → mX i ≤ 41 := by decide +kernel
theorem mth_ne : ∀ q ∈ calL, mth q.2.2.2.1 ≠ 0 → ¬ q.2.2.2.2.2 = 1 := by decide +kernel
theorem TWD_ok {args : Array Value} {s : State} (hts : ∀ w ∈ lw_tbl, goodWord w = true → w.before args s = true) : ∀ w ∈ TWD, w.before args s = true := fun w hw => hts w (List.mem_filter.mp hw).1 (List.mem_filter.mp hw).2
theorem TWD_in {w : Cond} (h : w ∈ lw_tbl) (hg : goodWord w = true) : w ∈ TWD := List.mem_filter.mpr ⟨h, hg⟩
theorem wsM_good {i : Nat} (hi : i < 325) : GoodIn TWD (wsM i) := by
  intro w hw
  rcases List.mem_cons.mp hw with rfl | h
  · exact ⟨TWD_in (mco_in i hi) rfl, good_of_word rfl⟩
  · exact ⟨h, good_of_word (List.mem_filter.mp h).2⟩
theorem PcM_blind {E : pE} {a : List pv} {n : Nat} {M : pM} : FrameBlind (PcM E a n M) := by
  intro v U g mk h
  obtain ⟨h1, h2, h3, h4, h5⟩ := h
  exact ⟨h1, h2, h3, KU.same (s := U) (U := U.calling g mk v) rfl h4, ROk.moved (u := U) (U := U.calling g mk v) (Vm.Alike.refl U.vm) h5⟩
theorem PcM_at {E : pE} {a : List pv} {n : Nat} {M Me : pM} {s U : State} {H : Heap} {locs : List Loc} (hU : U.heap = H) (hW : s.WarmedH U.vm) (hsz : H.size = E.2.2.2 + n) (hw : va_P E.1 vwCl (wsO E n M) H) (hK : KU E s) (hRO : ROk E Me s s.heap) (hro : ∀ b, 1000 ≤ b → M b = Me b) (hSS : va_S (AE E) s.heap H locs) : PcM E a n M (a.map (cv E.2.2.1)).toArray U := by
  subst hU
  exact ⟨rfl, hsz, hw, KU.warm hW hK, ((hRO.kept (fun q h1 h2 => hSS.2.1 q h1 h2)).congr hro).moved hW.alike⟩
theorem W_sz {E : pE} {n0 n sl : Nat} {M : pM} {p : Program} {l : Launch} {e : Env} {R : Room} {s : State} {m : MethodId} {args : Array Value} {below : List Frame} {meth : Method} {c : Code} {Qw : State → Prop} {H : Heap} {locs : List Loc} {g : JFrame} (hsz : s.heap.size = E.2.2.2 + n0) (hn : n0 ≤ n) (hw : va_P E.1 vwCl (wsO E n M) H) (hSS : va_S (AE E) s.heap H locs)
    (k : H.size = E.2.2.2 + n → W p l e R s m args below meth c H locs (n - n0) sl Qw g) : W p l e R s m args below meth c H locs (n - n0) sl Qw g := by
  intro T hT X
  have h1 := X.heapSize
  rw [hT] at h1
  have h2 : E.2.2.2 + n ≤ H.size := by
    rcases Nat.lt_or_ge n0 n with h | h
    · have h3 : E.2.2.2 + (n - 1) < H.size := (hw (n - 1) (E.2.2.2 + (n - 1), _) (wsO_at (by omega))).lt
      omega
    · have := hSS.1
      omega
  exact k (by omega) T hT X
set_option maxHeartbeats 4000000 in
/-- behind a call -/
theorem call_go {E : pE} {n i mc ms cells slots pc : Nat} {M : pM} {Q0 : pQ} {S' : List pv} {a : Array Value} {st0 : List Value} {p : Program} {l : Launch} {e : Env} {R : Room} {s : State} {m : MethodId} {args : Array Value} {below : List Frame} {meth : Method} {c : Code} {Qw : State → Prop} {H : Heap} {locs : List Loc} {ls : Array Slot}
    (hrun : va_Run p l e R s m args below meth c H locs cells slots mc ms (F0 m pc ls st0) (S'.map (cv E.2.2.1)) (QcM E i n M Q0 a) (AE E)) (hSS : va_S (AE E) s.heap H locs) (hS' : wfS S')
    (k : ∀ r M', Q0 r M' → wfM M' → (∀ b, 1000 ≤ b → M' b = M b) → ∃ S'', psh (mR i) r S' S'' ∧ (wfS S'' → ∀ (H1 : Heap) (locs1 : List Loc), va_P E.1 vwCl (wsO E (n + mC i) M') H1 → va_S (AE E) s.heap H1 locs1 → W p l e R s m args below meth c H1 locs1 (cells + mc) (slots + ms) Qw (F0 m (pc + 3) ls (S''.map (cv E.2.2.1))))) : W p l e R s m args below meth c H locs cells slots Qw (F0 m pc ls st0) := by
  cases hm : mR i with
  | none =>
    have hQ : QcM E i n M Q0 = va_Qv (fun M' : pM => Q0 none M' ∧ wfM M' ∧ ∀ a, 1000 ≤ a → M' a = M a) (fun M' t => va_P E.1 vwCl (wsO E (n + mC i) M') t.heap) (AE E) := by unfold QcM; rw [hm]
    rw [hQ] at hrun
    refine va_callv hrun hSS (fun q _ h => h) (fun q h => h) (fun M' t H1 locs1 ht hvm hp hB hz1 hk1 hS1 => ?_)
    obtain ⟨h1, h2, h3⟩ := hp
    obtain ⟨S'', g1, g2⟩ := k none M' h1 h2 h3
    rw [hm] at g1
    obtain ⟨-, rfl⟩ := g1
    exact g2 hS' H1 locs1 (by rw [← ht]; exact hB) hS1
  | some ty =>
    cases ty
    case long =>
      have hQ : QcM E i n M Q0 = va_Ql (fun (x : Int64) (u : Int × pM) => x = Int64.ofInt u.1 ∧ r64 u.1 ∧ Q0 (some (vl u.1)) u.2 ∧ wfM u.2 ∧ ∀ a, 1000 ≤ a → u.2 a = M a) (fun u t => va_P E.1 vwCl (wsO E (n + mC i) u.2) t.heap) (AE E) := by unfold QcM; rw [hm]
      rw [hQ] at hrun
      refine va_calll hrun hSS (fun q _ h => h) (fun q h => h) (fun x u t H1 locs1 ht hvm hp hB hz1 hk1 hS1 => ?_)
      obtain ⟨rfl, h0, h1, h2, h3⟩ := hp
      obtain ⟨S'', g1, g2⟩ := k _ u.2 h1 h2 h3
      rw [hm] at g1
      obtain ⟨y, g3, rfl⟩ := g1
      cases g3
      exact g2 (wfS_c h0 hS') H1 locs1 (by rw [← ht]; exact hB) hS1
    all_goals
      have hQ : QcM E i n M Q0 = va_Qi (fun (x : Int32) (u : Int × pM) => x = Int32.ofInt u.1 ∧ r32 u.1 ∧ Q0 (some (vi u.1)) u.2 ∧ wfM u.2 ∧ ∀ a, 1000 ≤ a → u.2 a = M a) (fun u t => va_P E.1 vwCl (wsO E (n + mC i) u.2) t.heap) (AE E) := by unfold QcM; rw [hm]
      rw [hQ] at hrun
      refine va_calli hrun hSS (fun q _ h => h) (fun q h => h) (fun x u t H1 locs1 ht hvm hp hB hz1 hk1 hS1 => ?_)
      obtain ⟨rfl, h0, h1, h2, h3⟩ := hp
      obtain ⟨S'', g1, g2⟩ := k _ u.2 h1 h2 h3
      rw [hm] at g1
      first
        | exact g1.elim
        | (obtain ⟨y, g3, rfl⟩ := g1
           cases g3
           exact g2 (wfS_c h0 hS') H1 locs1 (by rw [← ht]; exact hB) hS1)
set_option maxHeartbeats 4000000 in
theorem snd_callV {E : pE} {j n0 r : Nat} {Me : pM} {p : Program} {l : Launch} {e : Env} {R : Room} {s : State} {m : MethodId} {args : Array Value} {below : List Frame} {meth : Method} {c : Code} {Qw : State → Prop} (F : Fx E j n0 r Me p R s m args meth c)
    {pc : Nat} {L : pL} {S : List pv} {n : Nat} {M : pM} {S' As : List pv} {ix b r' : Nat} {O : pO} {q : Nat × Nat × Nat × Nat × Nat × Nat} (hO : OS l r' O) (hrr : r' + 1 ≤ r) (hq : q ∈ calL) (e1 : q.1 = mO j) (e2 : q.2.1 = ix) (e3 : q.2.2.1 = 0) (hd : decode (mB j) pc = .ok (.invokevirtual ix, 3)) (hA : As.length = mA q.2.2.2.1) (hob : ob n b = mO q.2.2.2.1) (hox : mO q.2.2.2.1 < 13) (hk : stk S' ≤ 8) (hmc : mC q.2.2.2.1 = 0)
    (hmo : mo O q.2.2.2.1 (vr (b + 1) :: As) n M (fun r M' => ∃ S'', psh (mR q.2.2.2.1) r S' S'' ∧ Sm E j n0 Me p l e R s m args below meth c Qw (pc + 3) L S'' n M')) : Sm E j n0 Me p l e R s m args below meth c Qw pc L (As.reverse ++ vr (b + 1) :: S') n M := by
  intro hn1 hn2 hL hS hM hro hLl H locs ls hl hw hSS
  obtain ⟨hx, hb, hml, hown, hts, hK, hRO, hini, hRm, hRf, hsz, had, hr, hNC⟩ := F
  refine W_sz hsz hn1 hw hSS (fun hHs => ?_)
  obtain ⟨hi, -, hst1, hst2⟩ := cal_rg q hq
  have hwq := chk_ok cal_in0 q hq
  obtain ⟨Q0, h1, h2⟩ := hmo
  have hmst := chk_ok mst_in0 q.2.2.2.1 (List.mem_range.mpr hi)
  have hmin := chk_ok min_in0 q.2.2.2.1 (List.mem_range.mpr hi)
  have hmco := mco_in q.2.2.2.1 hi
  have hmx := mX_le _ hi
  have hT := TWD_ok hts
  have hm1 := slL_mono hn1
  have hN : NCELL = 119 := rfl
  subst e2
  have hS' : wfS S' := fun v hv => hS v (List.mem_append_right _ (List.mem_cons_of_mem _ hv))
  have hAs : wfS (vr (b + 1) :: As) := wfS_c (hS _ (List.mem_append_right _ List.mem_cons_self)) (fun v hv => hS v (List.mem_append_left _ (List.mem_reverse.mpr hv)))
  obtain ⟨hbn, hsh⟩ := ob_of hox hob
  have hM0 := hO q.2.2.2.1 (vr (b + 1) :: As) n M Q0 hi h1 hAs hM (by omega) E had
  have hat : (wsO E n M)[b]? = some (E.2.2.2 + b, .inr (mO q.2.2.2.1, fsO E (mO q.2.2.2.1) (M b))) := by rw [wsO_at hbn, hsh]; rfl
  have hadb := had b (ncell_lt hn2 hNC hbn)
  have hnst : isSt q.2.2.2.1 = false := by cases hz : isSt q.2.2.2.1 with
    | false => rfl
    | true => have := hst1.mpr hz; omega
  have hnin : (mY q.2.2.2.1).name ≠ "<init>" := fun hz => by have := hst2.mpr hz; omega
  have hinst : Cond.instanceMethod (mY q.2.2.2.1) ∈ lw_tbl := by simpa [hnst] using hmst
  have hsel : Cond.selects (mY q.2.2.2.1).cls (mY q.2.2.2.1) (mY q.2.2.2.1) ∈ lw_tbl := chk_ok mse_in0 q.2.2.2.1 (List.mem_filter.mpr ⟨List.mem_range.mpr hi, by simp [hnst, hnin]⟩)
  have hcls := mow_ok _ hi
  have hpre : PreV s H (mY q.2.2.2.1).cls (E.2.2.1 b) (PcM E (vr (b + 1) :: As) n M) (As.map (cv E.2.2.1)) :=
    ⟨PcM_blind, by rw [hcls, hadb]; exact va_recv hK.1 hw (cl_ok _ hox) hat, fun U hU hW => PcM_at hU hW hHs hw hK hRO hro hSS⟩
  have hstack : (As.reverse ++ vr (b + 1) :: S').map (cv E.2.2.1) = (As.map (cv E.2.2.1)).reverse ++ .ref (E.2.2.1 b) :: S'.map (cv E.2.2.1) := by rw [List.map_append, List.map_reverse]; rfl
  have hroom := lv_room (m := m) (pc := pc) (ls := ls) (rest := (As.reverse ++ vr (b + 1) :: S').map (cv E.2.2.1)) (st := S'.map (cv E.2.2.1)) (by rw [stk_cv]; exact hk)
  have hfit : n - n0 + mC q.2.2.2.1 ≤ R.cells ∧ slL n - slL n0 + (slL (n + mC q.2.2.2.1) - slL n) ≤ R.slots := by rw [hmc]; have := slL_mono hn2; simp only [Nat.add_zero]; omega
  have hrun : va_Run p l e R s m args below meth c H locs (n - n0) (slL n - slL n0) (mC q.2.2.2.1) (slL (n + mC q.2.2.2.1) - slL n) (F0 m pc ls ((As.reverse ++ vr (b + 1) :: S').map (cv E.2.2.1))) (S'.map (cv E.2.2.1)) (QcM E q.2.2.2.1 n M Q0 (Value.ref (E.2.2.1 b) :: As.map (cv E.2.2.1)).toArray) (AE E) := by
    by_cases hne : q.2.2.2.2.2 = 1
    · have hwq : Cond.methodLinkNest (RN q.1) q.2.1 (mY q.2.2.2.1) "SoarHouse" ∈ lw_tbl := by have h := hwq; unfold calW at h; rw [if_pos hne] at h; exact h
      exact va_runVN (Ts := TWD) ⟨hx, hb, hml, hown, hT⟩ hM0 ⟨va_cnB (mA q.2.2.2.1) hT (wsM_good hi) rfl rfl rfl (by rw [← e1]; exact hK.2.1 _ hwq rfl) (hts _ hmin rfl) (mnm_ok _ hi) ⟨by show r' + 1 ≤ _; omega, by show 8 + (mX _ + 11) + 60 * r' ≤ _; omega⟩, hts _ hinst rfl, hts _ hsel rfl⟩ hpre rfl (by rw [List.length_map]; exact hA) (hl.1.trans hLl) hstack hroom hd hfit
    · have hwq : Cond.methodLink (RN q.1) q.2.1 (mY q.2.2.2.1) ∈ lw_tbl := by have h := hwq; unfold calW at h; rw [if_neg hne] at h; exact h
      exact va_runV (Ts := TWD) ⟨hx, hb, hml, hown, hT⟩ hM0 ⟨callB_of (mA q.2.2.2.1) hT (wsM_good hi) rfl rfl rfl (hts _ hmin rfl) (by rw [← e1]; exact hts _ hwq rfl) (mnm_ok _ hi) ⟨by show r' + 1 ≤ _; omega, by show 8 + (mX _ + 11) + 60 * r' ≤ _; omega⟩, hts _ hinst rfl, hts _ hsel rfl⟩ hpre rfl (by rw [List.length_map]; exact hA) (hl.1.trans hLl) hstack hroom hd hfit
  refine call_go hrun hSS hS' (fun rr M' hq0 hM' hro' => ?_)
  obtain ⟨S'', g1, g2⟩ := h2 rr M' hq0
  refine ⟨S'', g1, fun hwS H1 locs1 hP1 hS1 => ?_⟩
  have K := g2 hn1 hn2 hL hwS hM' (fun a ha => (hro' a ha).trans (hro a ha)) hLl H1 locs1 ls hl (by rw [hmc] at hP1; exact hP1) hS1
  rw [hmc]
  simp only [Nat.add_zero, Nat.sub_self]
  exact K
set_option maxHeartbeats 4000000 in
theorem snd_callS {E : pE} {j n0 r : Nat} {Me : pM} {p : Program} {l : Launch} {e : Env} {R : Room} {s : State} {m : MethodId} {args : Array Value} {below : List Frame} {meth : Method} {c : Code} {Qw : State → Prop} (F : Fx E j n0 r Me p R s m args meth c)
    {pc : Nat} {L : pL} {S : List pv} {n : Nat} {M : pM} {S' As : List pv} {ix r' : Nat} {O : pO} {q : Nat × Nat × Nat × Nat × Nat × Nat} (hO : OS l r' O) (hrr : r' + 1 ≤ r) (hq : q ∈ calL) (e1 : q.1 = mO j) (e2 : q.2.1 = ix) (e3 : q.2.2.1 = 1) (hd : decode (mB j) pc = .ok (.invokestatic ix, 3)) (hA : As.length = mA q.2.2.2.1) (hk : stk S' ≤ 8) (hmc : mC q.2.2.2.1 = 0)
    (hmo : mo O q.2.2.2.1 As n M (fun r M' => ∃ S'', psh (mR q.2.2.2.1) r S' S'' ∧ Sm E j n0 Me p l e R s m args below meth c Qw (pc + 3) L S'' n M')) : Sm E j n0 Me p l e R s m args below meth c Qw pc L (As.reverse ++ S') n M := by
  intro hn1 hn2 hL hS hM hro hLl H locs ls hl hw hSS
  obtain ⟨hx, hb, hml, hown, hts, hK, hRO, hini, hRm, hRf, hsz, had, hr, hNC⟩ := F
  refine W_sz hsz hn1 hw hSS (fun hHs => ?_)
  obtain ⟨hi, -, hst1, hst2⟩ := cal_rg q hq
  have hwq := chk_ok cal_in0 q hq
  obtain ⟨Q0, h1, h2⟩ := hmo
  have hmst := chk_ok mst_in0 q.2.2.2.1 (List.mem_range.mpr hi)
  have hmin := chk_ok min_in0 q.2.2.2.1 (List.mem_range.mpr hi)
  have hmco := mco_in q.2.2.2.1 hi
  have hmx := mX_le _ hi
  have hT := TWD_ok hts
  have hm1 := slL_mono hn1
  have hN : NCELL = 119 := rfl
  subst e2
  have hS' : wfS S' := fun v hv => hS v (List.mem_append_right _ hv)
  have hAs : wfS As := fun v hv => hS v (List.mem_append_left _ (List.mem_reverse.mpr hv))
  have hM0 := hO q.2.2.2.1 As n M Q0 hi h1 hAs hM (by omega) E had
  have hnst : isSt q.2.2.2.1 = true := hst1.mp e3
  have hstat : Cond.static (mY q.2.2.2.1) ∈ lw_tbl := by simpa [hnst] using hmst
  have hpre : PreS s H (PcM E As n M) (As.map (cv E.2.2.1)) := ⟨PcM_blind, fun U hU hW => PcM_at hU hW hHs hw hK hRO hro hSS⟩
  have hstack : (As.reverse ++ S').map (cv E.2.2.1) = (As.map (cv E.2.2.1)).reverse ++ S'.map (cv E.2.2.1) := by rw [List.map_append, List.map_reverse]
  have hroom := lv_room (m := m) (pc := pc) (ls := ls) (rest := (As.reverse ++ S').map (cv E.2.2.1)) (st := S'.map (cv E.2.2.1)) (by rw [stk_cv]; exact hk)
  have hfit : n - n0 + mC q.2.2.2.1 ≤ R.cells ∧ slL n - slL n0 + (slL (n + mC q.2.2.2.1) - slL n) ≤ R.slots := by rw [hmc]; have := slL_mono hn2; simp only [Nat.add_zero]; omega
  have hrun : va_Run p l e R s m args below meth c H locs (n - n0) (slL n - slL n0) (mC q.2.2.2.1) (slL (n + mC q.2.2.2.1) - slL n) (F0 m pc ls ((As.reverse ++ S').map (cv E.2.2.1))) (S'.map (cv E.2.2.1)) (QcM E q.2.2.2.1 n M Q0 (As.map (cv E.2.2.1)).toArray) (AE E) := by
    by_cases hne : q.2.2.2.2.2 = 1
    · have hwq : Cond.methodLinkNest (RN q.1) q.2.1 (mY q.2.2.2.1) "SoarHouse" ∈ lw_tbl := by have h := hwq; unfold calW at h; rw [if_pos hne] at h; exact h
      exact va_runSN (Ts := TWD) ⟨hx, hb, hml, hown, hT⟩ hM0 ⟨va_cnB (mA q.2.2.2.1) hT (wsM_good hi) rfl rfl rfl (by rw [← e1]; exact hK.2.1 _ hwq rfl) (hts _ hmin rfl) (mnm_ok _ hi) ⟨by show r' + 1 ≤ _; omega, by show 8 + (mX _ + 11) + 60 * r' ≤ _; omega⟩, hts _ hstat rfl, trivial⟩ hpre rfl (by rw [List.length_map]; exact hA) (hl.1.trans hLl) hstack hroom hd hfit
    · have hwq : Cond.methodLink (RN q.1) q.2.1 (mY q.2.2.2.1) ∈ lw_tbl := by have h := hwq; unfold calW at h; rw [if_neg hne] at h; exact h
      exact va_runS (Ts := TWD) ⟨hx, hb, hml, hown, hT⟩ hM0 ⟨callB_of (mA q.2.2.2.1) hT (wsM_good hi) rfl rfl rfl (hts _ hmin rfl) (by rw [← e1]; exact hts _ hwq rfl) (mnm_ok _ hi) ⟨by show r' + 1 ≤ _; omega, by show 8 + (mX _ + 11) + 60 * r' ≤ _; omega⟩, hts _ hstat rfl⟩ hpre rfl (by rw [List.length_map]; exact hA) (hl.1.trans hLl) hstack hroom hd hfit
  refine call_go hrun hSS hS' (fun rr M' hq0 hM' hro' => ?_)
  obtain ⟨S'', g1, g2⟩ := h2 rr M' hq0
  refine ⟨S'', g1, fun hwS H1 locs1 hP1 hS1 => ?_⟩
  have K := g2 hn1 hn2 hL hwS hM' (fun a ha => (hro' a ha).trans (hro a ha)) hLl H1 locs1 ls hl (by rw [hmc] at hP1; exact hP1) hS1
  rw [hmc]
  simp only [Nat.add_zero, Nat.sub_self]
  exact K
set_option maxHeartbeats 4000000 in
theorem snd_callI {E : pE} {j n0 r : Nat} {Me : pM} {p : Program} {l : Launch} {e : Env} {R : Room} {s : State} {m : MethodId} {args : Array Value} {below : List Frame} {meth : Method} {c : Code} {Qw : State → Prop} (F : Fx E j n0 r Me p R s m args meth c)
    {pc : Nat} {L : pL} {S : List pv} {n : Nat} {M : pM} {S' As : List pv} {ix b r' : Nat} {O : pO} {q : Nat × Nat × Nat × Nat × Nat × Nat} (hO : OS l r' O) (hrr : r' + 1 ≤ r) (hq : q ∈ calL) (e1 : q.1 = mO j) (e2 : q.2.1 = ix) (e3 : q.2.2.1 = 2) (hd : decode (mB j) pc = .ok (.invokespecial ix, 3)) (hA : As.length = mA q.2.2.2.1) (hk : stk S' ≤ 8) (hmc : n + mC q.2.2.2.1 ≤ n0 + mC j) (hmr : mR q.2.2.2.1 = none)
    (hmo : mo O q.2.2.2.1 (vr (b + 1) :: As) n M (fun r M' => r = none ∧ Sm E j n0 Me p l e R s m args below meth c Qw (pc + 3) L S' (n + mC q.2.2.2.1) M')) : Sm E j n0 Me p l e R s m args below meth c Qw pc L (As.reverse ++ vr (b + 1) :: S') n M := by
  intro hn1 hn2 hL hS hM hro hLl H locs ls hl hw hSS
  obtain ⟨hx, hb, hml, hown, hts, hK, hRO, hini, hRm, hRf, hsz, had, hr, hNC⟩ := F
  refine W_sz hsz hn1 hw hSS (fun hHs => ?_)
  obtain ⟨hi, -, hst1, hst2⟩ := cal_rg q hq
  have hwq := chk_ok cal_in0 q hq
  obtain ⟨Q0, h1, h2⟩ := hmo
  have hmst := chk_ok mst_in0 q.2.2.2.1 (List.mem_range.mpr hi)
  have hmin := chk_ok min_in0 q.2.2.2.1 (List.mem_range.mpr hi)
  have hmco := mco_in q.2.2.2.1 hi
  have hmx := mX_le _ hi
  have hT := TWD_ok hts
  have hm1 := slL_mono hn1
  have hN : NCELL = 119 := rfl
  subst e2
  have hS' : wfS S' := fun v hv => hS v (List.mem_append_right _ (List.mem_cons_of_mem _ hv))
  have hAs : wfS (vr (b + 1) :: As) := wfS_c (hS _ (List.mem_append_right _ List.mem_cons_self)) (fun v hv => hS v (List.mem_append_left _ (List.mem_reverse.mpr hv)))
  have hM0 := hO q.2.2.2.1 (vr (b + 1) :: As) n M Q0 hi h1 hAs hM (by omega) E had
  have hnin : (mY q.2.2.2.1).name = "<init>" := hst2.mp e3
  have hnst : isSt q.2.2.2.1 = false := by cases hz : isSt q.2.2.2.1 with
    | false => rfl
    | true => have := hst1.mpr hz; omega
  have hinst : Cond.instanceMethod (mY q.2.2.2.1) ∈ lw_tbl := by simpa [hnst] using hmst
  have hpre : PreS s H (PcM E (vr (b + 1) :: As) n M) (.ref (E.2.2.1 b) :: As.map (cv E.2.2.1)) := ⟨PcM_blind, fun U hU hW => PcM_at (a := vr (b + 1) :: As) hU hW hHs hw hK hRO hro hSS⟩
  have hstack : (As.reverse ++ vr (b + 1) :: S').map (cv E.2.2.1) = (As.map (cv E.2.2.1)).reverse ++ .ref (E.2.2.1 b) :: S'.map (cv E.2.2.1) := by rw [List.map_append, List.map_reverse]; rfl
  have hroom := lv_room (m := m) (pc := pc) (ls := ls) (rest := (As.reverse ++ vr (b + 1) :: S').map (cv E.2.2.1)) (st := S'.map (cv E.2.2.1)) (by rw [stk_cv]; exact hk)
  have hm3 := slL_mono hmc
  have hm4 : slL n ≤ slL (n + mC q.2.2.2.1) := slL_mono (by omega)
  have hfit : n - n0 + mC q.2.2.2.1 ≤ R.cells ∧ slL n - slL n0 + (slL (n + mC q.2.2.2.1) - slL n) ≤ R.slots := by omega
  rw [hmr] at hmco
  have hwe : wsM q.2.2.2.1 = Cond.code (mY q.2.2.2.1) (mB q.2.2.2.1) (mX q.2.2.2.1) none :: TWD := by unfold wsM; rw [hmr]
  have hrun : va_Run p l e R s m args below meth c H locs (n - n0) (slL n - slL n0) (mC q.2.2.2.1) (slL (n + mC q.2.2.2.1) - slL n) (F0 m pc ls ((As.reverse ++ vr (b + 1) :: S').map (cv E.2.2.1))) (S'.map (cv E.2.2.1)) (QcM E q.2.2.2.1 n M Q0 (Value.ref (E.2.2.1 b) :: As.map (cv E.2.2.1)).toArray) (AE E) := by
    by_cases hne : q.2.2.2.2.2 = 1
    · have hwq : Cond.methodLinkNest (RN q.1) q.2.1 (mY q.2.2.2.1) "SoarHouse" ∈ lw_tbl := by have h := hwq; unfold calW at h; rw [if_pos hne] at h; exact h
      exact va_runIN (Ts := TWD) ⟨hx, hb, hml, hown, hT⟩ hM0 ⟨va_cnB (mA q.2.2.2.1) hT (wsM_good hi) hwe rfl rfl (by rw [← e1]; exact hK.2.1 _ hwq rfl) (hts _ hmin rfl) (mnm_ok _ hi) ⟨by show r' + 1 ≤ _; omega, by show 8 + (mX _ + 11) + 60 * r' ≤ _; omega⟩, hnin, hts _ hinst rfl⟩ hpre rfl (by rw [List.length_map]; exact hA) (hl.1.trans hLl) hstack hroom hd hfit
    · have hwq : Cond.methodLink (RN q.1) q.2.1 (mY q.2.2.2.1) ∈ lw_tbl := by have h := hwq; unfold calW at h; rw [if_neg hne] at h; exact h
      exact va_runI (Ts := TWD) ⟨hx, hb, hml, hown, hT⟩ hM0 ⟨callB_of (mA q.2.2.2.1) hT (wsM_good hi) hwe rfl rfl (hts _ hmin rfl) (by rw [← e1]; exact hts _ hwq rfl) (mnm_ok _ hi) ⟨by show r' + 1 ≤ _; omega, by show 8 + (mX _ + 11) + 60 * r' ≤ _; omega⟩, hnin, hts _ hinst rfl⟩ hpre rfl (by rw [List.length_map]; exact hA) (hl.1.trans hLl) hstack hroom hd hfit
  refine call_go hrun hSS hS' (fun rr M' hq0 hM' hro' => ?_)
  obtain ⟨rfl, g2⟩ := h2 rr M' hq0
  refine ⟨S', by rw [hmr]; exact ⟨rfl, rfl⟩, fun hwS H1 locs1 hP1 hS1 => ?_⟩
  have K := g2 (by omega) (by omega) hL hwS hM' (fun a ha => (hro' a ha).trans (hro a ha)) hLl H1 locs1 ls hl hP1 hS1
  rw [show n + mC q.2.2.2.1 - n0 = n - n0 + mC q.2.2.2.1 by omega, show slL (n + mC q.2.2.2.1) - slL n0 = slL n - slL n0 + (slL (n + mC q.2.2.2.1) - slL n) by omega] at K
  exact K
end
section
/-! ===== the two texts ===== -/
def sfN (k : Nat) : String := if k = 0 then "value" else "coder"
def sfD (k : Nat) : String := if k = 0 then "[B" else "B"
def gbC (k : Nat) : String := if k = 0 then "java/lang/String" else "jdk/internal/util/Preconditions"
def gbN (k : Nat) : String := if k = 0 then "COMPACT_STRINGS" else "SIOOBE_FORMATTER"
def gbD (k : Nat) : String := if k = 0 then "Z" else "Ljava/util/function/BiFunction;"
theorem str_rg : ∀ q ∈ strL, q.2.2.1 < 2 ∧ RN q.1 = "SoarHouse$Tokens" ∧ q.2.1 = six q.2.2.1 := by decide +kernel
theorem sf_in0 : chk (fun q : Nat × Nat × Nat × Nat => .fieldLink (RN q.1) q.2.1 "java/lang/String" (sfN q.2.2.1) (sfD q.2.2.1)) (fun q => q.2.2.2) lw_tbl sfL = true := by decide +kernel
theorem sf_rg : ∀ q ∈ sfL, q.2.2.1 < 2 := by decide +kernel
theorem gb_in0 : chk (fun q : Nat × Nat × Nat × Nat => .fieldLink (RN q.1) q.2.1 (gbC q.2.2.1) (gbN q.2.2.1) (gbD q.2.2.1)) (fun q => q.2.2.2) lw_tbl gbL = true := by decide +kernel
theorem gb_rg : ∀ q ∈ gbL, q.2.2.1 < 2 := by decide +kernel
theorem cv_s {ad : Nat → Nat} {i : Nat} : cv ad (vr (1005 + 2 * i)) = .ref (ad (1004 + 2 * i)) := by rw [show 1005 + 2 * i = 1004 + 2 * i + 1 by omega]; rfl
theorem cv_t {ad : Nat → Nat} {i : Nat} : cv ad (vr (1006 + 2 * i)) = .ref (ad (1005 + 2 * i)) := by rw [show 1006 + 2 * i = 1005 + 2 * i + 1 by omega]; rfl
theorem cv_0 {ad : Nat → Nat} : cv ad (vi 0) = .int 0 := rfl
theorem cv_1 {ad : Nat → Nat} : cv ad (vi 1) = .int 1 := rfl
theorem cv_c {ad : Nat → Nat} {v : pv} {S : List pv} : (v :: S).map (cv ad) = cv ad v :: S.map (cv ad) := rfl
theorem snd_ldcS {E : pE} {j n0 r : Nat} {Me : pM} {p : Program} {l : Launch} {e : Env} {R : Room} {s : State} {m : MethodId} {args : Array Value} {below : List Frame} {meth : Method} {c : Code} {Qw : State → Prop} (F : Fx E j n0 r Me p R s m args meth c)
    {pc : Nat} {L : pL} {S : List pv} {n : Nat} {M : pM} {ix : Nat} {q : Nat × Nat × Nat × Nat} (hq : q ∈ strL) (e1 : q.1 = mO j) (e2 : q.2.1 = ix) (hd : decode (mB j) pc = .ok (.ldc ix, 2)) (k : Sm E j n0 Me p l e R s m args below meth c Qw (pc + 2) L (vr (1005 + 2 * q.2.2.1) :: S) n M) : Sm E j n0 Me p l e R s m args below meth c Qw pc L S n M := by
  intro hn1 hn2 hL hS hM hro hLl H locs ls hl hw hSS
  obtain ⟨hx, hb, hml, hown, hts, hK, hRO, hini, hRm, hRf, hsz, had, hr, hNC⟩ := F
  obtain ⟨h1, h2, h3⟩ := str_rg q hq
  have K := k hn1 hn2 hL (wfS_c (show 1005 + 2 * q.2.2.1 ≤ 5000 by omega) hS) hM hro hLl H locs ls hl hw hSS
  rw [cv_c, cv_s] at K
  have hZ := hK.2.2 q.2.2.1 h1
  rw [← h3, e2] at hZ
  exact va_ldcS hx hb (by rw [← h2, e1]; exact hown) hZ hd K
theorem snd_gfS {E : pE} {j n0 r : Nat} {Me : pM} {p : Program} {l : Launch} {e : Env} {R : Room} {s : State} {m : MethodId} {args : Array Value} {below : List Frame} {meth : Method} {c : Code} {Qw : State → Prop} (F : Fx E j n0 r Me p R s m args meth c)
    {pc : Nat} {L : pL} {S : List pv} {n : Nat} {M : pM} {S' : List pv} {ix i : Nat} {q : Nat × Nat × Nat × Nat} (hq : q ∈ sfL) (e1 : q.1 = mO j) (e2 : q.2.1 = ix) (hi : i < 2) (hd : decode (mB j) pc = .ok (.getfield ix, 3)) (k : Sm E j n0 Me p l e R s m args below meth c Qw (pc + 3) L ((if q.2.2.1 = 0 then vr (1006 + 2 * i) else vi 0) :: S') n M) : Sm E j n0 Me p l e R s m args below meth c Qw pc L (vr (1005 + 2 * i) :: S') n M := by
  intro hn1 hn2 hL hS hM hro hLl H locs ls hl hw hSS
  obtain ⟨hx, hb, hml, hown, hts, hK, hRO, hini, hRm, hRf, hsz, had, hr, hNC⟩ := F
  have h1 := sf_rg q hq
  have hwq := chk_ok sf_in0 q hq
  have hS' := wfS_t hS
  have hso := hRO.2.2.2.1 i hi
  rw [cv_c, cv_s]
  subst e2
  by_cases h0 : q.2.2.1 = 0
  · rw [if_pos h0] at k
    have K := k hn1 hn2 hL (wfS_c (show 1006 + 2 * i ≤ 5000 by omega) hS') hM hro hLl H locs ls hl hw hSS
    rw [cv_c, cv_t] at K
    have hlk : (Cond.fieldLink (RN (mO j)) q.2.1 "java/lang/String" "value" "[B").before args s = true := by
      have := hts _ hwq rfl
      rw [e1, h0] at this
      exact this
    exact vk_getf hx hb hso.2.2.1 hSS hown hlk (fun _ h => h) hd K
  · rw [if_neg h0] at k
    have K := k hn1 hn2 hL (wfS_c r32_0 hS') hM hro hLl H locs ls hl hw hSS
    rw [cv_c, cv_0] at K
    have h0' : q.2.2.1 = 1 := by omega
    have hlk : (Cond.fieldLink (RN (mO j)) q.2.1 "java/lang/String" "coder" "B").before args s = true := by
      have := hts _ hwq rfl
      rw [e1, h0'] at this
      exact this
    exact vk_getf hx hb hso.2.1 hSS hown hlk (fun _ h => h) hd K
theorem snd_gbS {E : pE} {j n0 r : Nat} {Me : pM} {p : Program} {l : Launch} {e : Env} {R : Room} {s : State} {m : MethodId} {args : Array Value} {below : List Frame} {meth : Method} {c : Code} {Qw : State → Prop} (F : Fx E j n0 r Me p R s m args meth c)
    {pc : Nat} {L : pL} {S : List pv} {n : Nat} {M : pM} {ix : Nat} {q : Nat × Nat × Nat × Nat} (hq : q ∈ gbL) (e1 : q.1 = mO j) (e2 : q.2.1 = ix) (hd : decode (mB j) pc = .ok (.getstatic ix, 3)) (k : Sm E j n0 Me p l e R s m args below meth c Qw (pc + 3) L ((if q.2.2.1 = 0 then vi 1 else vr (M 1009 0).toNat) :: S) n M) : Sm E j n0 Me p l e R s m args below meth c Qw pc L S n M := by
  intro hn1 hn2 hL hS hM hro hLl H locs ls hl hw hSS
  obtain ⟨hx, hb, hml, hown, hts, hK, hRO, hini, hRm, hRf, hsz, had, hr, hNC⟩ := F
  have h1 := gb_rg q hq
  have hwq := chk_ok gb_in0 q hq
  subst e2
  by_cases h0 : q.2.2.1 = 0
  · rw [if_pos h0] at k
    have K := k hn1 hn2 hL (wfS_c (show r32 1 by unfold r32; omega) hS) hM hro hLl H locs ls hl hw hSS
    rw [cv_c, cv_1] at K
    have hlk : (Cond.fieldLink (RN (mO j)) q.2.1 "java/lang/String" "COMPACT_STRINGS" "Z").before args s = true := by
      have := hts _ hwq rfl
      rw [e1, h0] at this
      exact this
    exact va_gets hx hb hRO.2.2.2.2.1 hSS hown hlk (fun _ h => h) hd K
  · rw [if_neg h0] at k
    have h9 := hRO.2.2.2.2.2.2
    rw [← hro 1009 (by omega)] at h9
    have K := k hn1 hn2 hL (wfS_c (show (M 1009 0).toNat ≤ 5000 by omega) hS) hM hro hLl H locs ls hl hw hSS
    rw [cv_c] at K
    have h0' : q.2.2.1 = 1 := by omega
    have hlk : (Cond.fieldLink (RN (mO j)) q.2.1 "jdk/internal/util/Preconditions" "SIOOBE_FORMATTER" "Ljava/util/function/BiFunction;").before args s = true := by
      have := hts _ hwq rfl
      rw [e1, h0'] at this
      exact this
    have hz := hRO.2.2.2.2.2.1
    rw [← hro 1009 (by omega)] at hz
    exact va_gets hx hb hz hSS hown hlk (fun _ h => h) hd K
theorem snd_baS {E : pE} {j n0 r : Nat} {Me : pM} {p : Program} {l : Launch} {e : Env} {R : Room} {s : State} {m : MethodId} {args : Array Value} {below : List Frame} {meth : Method} {c : Code} {Qw : State → Prop} (F : Fx E j n0 r Me p R s m args meth c)
    {pc : Nat} {L : pL} {S : List pv} {n : Nat} {M : pM} {S' : List pv} {i : Nat} {x : Int} (hi : i < 2) (h0 : 0 ≤ x) (h1 : x < (slen i : Nat)) (hd : decode (mB j) pc = .ok (.baload, 1)) (k : Sm E j n0 Me p l e R s m args below meth c Qw (pc + 1) L (vi (M (1005 + 2 * i) x.toNat) :: S') n M) : Sm E j n0 Me p l e R s m args below meth c Qw pc L (vi x :: vr (1006 + 2 * i) :: S') n M := by
  intro hn1 hn2 hL hS hM hro hLl H locs ls hl hw hSS
  obtain ⟨hx, hb, hml, hown, hts, hK, hRO, hini, hRm, hRf, hsz, had, hr, hNC⟩ := F
  have hx0 : r32 x := wfS_h hS
  have hS' := wfS_t (wfS_t hS)
  have hX := (hRO.2.2.2.1 i hi).2.2.2
  have K := k hn1 hn2 hL (wfS_c (wf_ro hM (by omega)) hS') hM hro hLl H locs ls hl hw hSS
  rw [cv_c, cv_c, cv_t]
  refine va_tb hx hb hX hSS (vin hx0 h0 h1) (v := .int (Int32.ofInt (M (1005 + 2 * i) x.toNat))) ?_ hd K
  show Value.int (Int32.ofInt (Me (1005 + 2 * i) (Int32.ofInt x).toNatClampNeg)) = _
  rw [i32_cl hx0 h0, ← hro (1005 + 2 * i) (by omega)]
theorem slen_le (i : Nat) : slen i ≤ 126 := by unfold slen; split <;> omega
theorem snd_alS {E : pE} {j n0 r : Nat} {Me : pM} {p : Program} {l : Launch} {e : Env} {R : Room} {s : State} {m : MethodId} {args : Array Value} {below : List Frame} {meth : Method} {c : Code} {Qw : State → Prop} (F : Fx E j n0 r Me p R s m args meth c)
    {pc : Nat} {L : pL} {S : List pv} {n : Nat} {M : pM} {S' : List pv} {i : Nat} (hi : i < 2) (hd : decode (mB j) pc = .ok (.arraylength, 1)) (k : Sm E j n0 Me p l e R s m args below meth c Qw (pc + 1) L (vi (slen i : Nat) :: S') n M) : Sm E j n0 Me p l e R s m args below meth c Qw pc L (vr (1006 + 2 * i) :: S') n M := by
  intro hn1 hn2 hL hS hM hro hLl H locs ls hl hw hSS
  obtain ⟨hx, hb, hml, hown, hts, hK, hRO, hini, hRm, hRf, hsz, had, hr, hNC⟩ := F
  have hS' := wfS_t hS
  have hX := (hRO.2.2.2.1 i hi).2.2.2
  have hsl := slen_le i
  have K := k hn1 hn2 hL (wfS_c (show r32 ((slen i : Nat) : Int) by unfold r32; omega) hS') hM hro hLl H locs ls hl hw hSS
  rw [cv_c, cv_t]
  exact va_tlen hx hb hX hSS (v := Int32.ofInt (slen i : Nat)) rfl hd K
set_option maxHeartbeats 4000000 in
theorem snd_callVS {E : pE} {j n0 r : Nat} {Me : pM} {p : Program} {l : Launch} {e : Env} {R : Room} {s : State} {m : MethodId} {args : Array Value} {below : List Frame} {meth : Method} {c : Code} {Qw : State → Prop} (F : Fx E j n0 r Me p R s m args meth c)
    {pc : Nat} {L : pL} {S : List pv} {n : Nat} {M : pM} {S' As : List pv} {ix b r' i0 : Nat} {O : pO} {q : Nat × Nat × Nat × Nat × Nat × Nat} (hO : OS l r' O) (hrr : r' + 1 ≤ r) (hq : q ∈ calL) (e1 : q.1 = mO j) (e2 : q.2.1 = ix) (e3 : q.2.2.1 = 0) (hd : decode (mB j) pc = .ok (.invokevirtual ix, 3)) (hA : As.length = mA q.2.2.2.1) (hi0 : i0 < 2) (hb0 : b = 1004 + 2 * i0) (hox : mO q.2.2.2.1 = 14) (hk : stk S' ≤ 8) (hmc : mC q.2.2.2.1 = 0)
    (hmo : mo O q.2.2.2.1 (vr (b + 1) :: As) n M (fun r M' => ∃ S'', psh (mR q.2.2.2.1) r S' S'' ∧ Sm E j n0 Me p l e R s m args below meth c Qw (pc + 3) L S'' n M')) : Sm E j n0 Me p l e R s m args below meth c Qw pc L (As.reverse ++ vr (b + 1) :: S') n M := by
  intro hn1 hn2 hL hS hM hro hLl H locs ls hl hw hSS
  obtain ⟨hx, hb, hml, hown, hts, hK, hRO, hini, hRm, hRf, hsz, had, hr, hNC⟩ := F
  refine W_sz hsz hn1 hw hSS (fun hHs => ?_)
  obtain ⟨hi, -, hst1, hst2⟩ := cal_rg q hq
  have hwq := chk_ok cal_in0 q hq
  obtain ⟨Q0, h1, h2⟩ := hmo
  have hmst := chk_ok mst_in0 q.2.2.2.1 (List.mem_range.mpr hi)
  have hmin := chk_ok min_in0 q.2.2.2.1 (List.mem_range.mpr hi)
  have hmco := mco_in q.2.2.2.1 hi
  have hmx := mX_le _ hi
  have hT := TWD_ok hts
  have hm1 := slL_mono hn1
  have hN : NCELL = 119 := rfl
  subst e2
  have hS' : wfS S' := fun v hv => hS v (List.mem_append_right _ (List.mem_cons_of_mem _ hv))
  have hAs : wfS (vr (b + 1) :: As) := wfS_c (hS _ (List.mem_append_right _ List.mem_cons_self)) (fun v hv => hS v (List.mem_append_left _ (List.mem_reverse.mpr hv)))
  have hM0 := hO q.2.2.2.1 (vr (b + 1) :: As) n M Q0 hi h1 hAs hM (by omega) E had
  have hnst : isSt q.2.2.2.1 = false := by cases hz : isSt q.2.2.2.1 with
    | false => rfl
    | true => have := hst1.mpr hz; omega
  have hnin : (mY q.2.2.2.1).name ≠ "<init>" := fun hz => by have := hst2.mpr hz; omega
  have hinst : Cond.instanceMethod (mY q.2.2.2.1) ∈ lw_tbl := by simpa [hnst] using hmst
  have hsel : Cond.selects (mY q.2.2.2.1).cls (mY q.2.2.2.1) (mY q.2.2.2.1) ∈ lw_tbl := chk_ok mse_in0 q.2.2.2.1 (List.mem_filter.mpr ⟨List.mem_range.mpr hi, by simp [hnst, hnin]⟩)
  have hcls := mow_ok _ hi
  have hpre : PreV s H (mY q.2.2.2.1).cls (E.2.2.1 b) (PcM E (vr (b + 1) :: As) n M) (As.map (cv E.2.2.1)) :=
    ⟨PcM_blind, by
      obtain ⟨cell, q1, q2, q3, -⟩ := ((hRO.2.2.2.1 i0 hi0).1).kept hSS.2.1
      rw [hcls, hox, hb0]
      exact ⟨cell, q1, q2, q3⟩, fun U hU hW => PcM_at hU hW hHs hw hK hRO hro hSS⟩
  have hstack : (As.reverse ++ vr (b + 1) :: S').map (cv E.2.2.1) = (As.map (cv E.2.2.1)).reverse ++ .ref (E.2.2.1 b) :: S'.map (cv E.2.2.1) := by rw [List.map_append, List.map_reverse]; rfl
  have hroom := lv_room (m := m) (pc := pc) (ls := ls) (rest := (As.reverse ++ vr (b + 1) :: S').map (cv E.2.2.1)) (st := S'.map (cv E.2.2.1)) (by rw [stk_cv]; exact hk)
  have hfit : n - n0 + mC q.2.2.2.1 ≤ R.cells ∧ slL n - slL n0 + (slL (n + mC q.2.2.2.1) - slL n) ≤ R.slots := by rw [hmc]; have := slL_mono hn2; simp only [Nat.add_zero]; omega
  have hrun : va_Run p l e R s m args below meth c H locs (n - n0) (slL n - slL n0) (mC q.2.2.2.1) (slL (n + mC q.2.2.2.1) - slL n) (F0 m pc ls ((As.reverse ++ vr (b + 1) :: S').map (cv E.2.2.1))) (S'.map (cv E.2.2.1)) (QcM E q.2.2.2.1 n M Q0 (Value.ref (E.2.2.1 b) :: As.map (cv E.2.2.1)).toArray) (AE E) := by
    by_cases hne : q.2.2.2.2.2 = 1
    · have hwq : Cond.methodLinkNest (RN q.1) q.2.1 (mY q.2.2.2.1) "SoarHouse" ∈ lw_tbl := by have h := hwq; unfold calW at h; rw [if_pos hne] at h; exact h
      exact va_runVN (Ts := TWD) ⟨hx, hb, hml, hown, hT⟩ hM0 ⟨va_cnB (mA q.2.2.2.1) hT (wsM_good hi) rfl rfl rfl (by rw [← e1]; exact hK.2.1 _ hwq rfl) (hts _ hmin rfl) (mnm_ok _ hi) ⟨by show r' + 1 ≤ _; omega, by show 8 + (mX _ + 11) + 60 * r' ≤ _; omega⟩, hts _ hinst rfl, hts _ hsel rfl⟩ hpre rfl (by rw [List.length_map]; exact hA) (hl.1.trans hLl) hstack hroom hd hfit
    · have hwq : Cond.methodLink (RN q.1) q.2.1 (mY q.2.2.2.1) ∈ lw_tbl := by have h := hwq; unfold calW at h; rw [if_neg hne] at h; exact h
      exact va_runV (Ts := TWD) ⟨hx, hb, hml, hown, hT⟩ hM0 ⟨callB_of (mA q.2.2.2.1) hT (wsM_good hi) rfl rfl rfl (hts _ hmin rfl) (by rw [← e1]; exact hts _ hwq rfl) (mnm_ok _ hi) ⟨by show r' + 1 ≤ _; omega, by show 8 + (mX _ + 11) + 60 * r' ≤ _; omega⟩, hts _ hinst rfl, hts _ hsel rfl⟩ hpre rfl (by rw [List.length_map]; exact hA) (hl.1.trans hLl) hstack hroom hd hfit
  refine call_go hrun hSS hS' (fun rr M' hq0 hM' hro' => ?_)
  obtain ⟨S'', g1, g2⟩ := h2 rr M' hq0
  refine ⟨S'', g1, fun hwS H1 locs1 hP1 hS1 => ?_⟩
  have K := g2 hn1 hn2 hL hwS hM' (fun a ha => (hro' a ha).trans (hro a ha)) hLl H1 locs1 ls hl (by rw [hmc] at hP1; exact hP1) hS1
  rw [hmc]
  simp only [Nat.add_zero, Nat.sub_self]
  exact K
theorem nar_b {x : Int} (h : -128 ≤ x ∧ x ≤ 127) : narrow .byte (.int (Int32.ofInt x)) = .int (Int32.ofInt x) := by
  show Value.int ((Int32.ofInt x).toInt8.toInt32) = _
  rw [← i32_8, show w8 x = x by unfold w8; omega]
theorem nar_c {x : Int} (h : 0 ≤ x ∧ x ≤ 65535) : narrow .char (.int (Int32.ofInt x)) = .int (Int32.ofInt x) := by
  have e : (Int32.ofInt x).toUInt32.toUInt16.toUInt32 = (Int32.ofInt x).toUInt32 := by
    apply UInt32.toNat_inj.mp
    have h1 : (Int32.ofInt x).toUInt32.toNat = x.toNat := by
      show (BitVec.ofInt 32 x).toNat = _
      rw [BitVec.toNat_ofInt]
      show (x % ((2 ^ 32 : Nat) : Int)).toNat = _
      rw [show ((2 ^ 32 : Nat) : Int) = 4294967296 from rfl]
      omega
    rw [UInt16.toNat_toUInt32, UInt32.toNat_toUInt16, h1]
    omega
  show Value.int ((Int32.ofInt x).toUInt32.toUInt16.toUInt32.toInt32) = _
  rw [e]
  rfl
set_option maxHeartbeats 4000000 in
theorem sy_snd {E : pE} {j n0 r : Nat} {Me : pM} {p : Program} {l : Launch} {e : Env} {R : Room} {s : State} {m : MethodId} {args : Array Value} {below : List Frame} {meth : Method} {c : Code} {Qw : State → Prop} (F : Fx E j n0 r Me p R s m args meth c) {r' : Nat} {O : pO} (hO : OS l r' O) (hrr : r' + 1 ≤ r) {pc : Nat} {L : pL} {S : List pv} {n : Nat} {M : pM} {i : Instr} {len : Nat} (hd : decode (mB j) pc = .ok (i, len)) (hs : sy O j (Sm E j n0 Me p l e R s m args below meth c Qw) pc L S n M i len) : Sm E j n0 Me p l e R s m args below meth c Qw pc L S n M := by
  cases i
  case ldc ix => obtain ⟨rfl, q, hq, e1, e2, e3⟩ := hs; exact snd_ldcS F hq e1 e2 hd e3
  case getfield ix => obtain ⟨rfl, q, hq, e1, e2, i, S', e3, rfl, e5⟩ := hs; exact snd_gfS (S := []) F hq e1 e2 e3 hd e5
  case getstatic ix => obtain ⟨rfl, q, hq, e1, e2, e3⟩ := hs; exact snd_gbS F hq e1 e2 hd e3
  case baload => obtain ⟨rfl, x, i, S', e1, rfl, e3, e4, e5⟩ := hs; exact snd_baS (S := []) F e1 e3 e4 hd e5
  case arraylength => obtain ⟨rfl, i, S', e1, rfl, e5⟩ := hs; exact snd_alS (S := []) F e1 hd e5
  case invokevirtual ix =>
    obtain ⟨rfl, q, hq, e1, e2, e3, As, i, S', e4, rfl, e6, e7, e8, e9, e10⟩ := hs
    have := snd_callVS (S := []) (b := 1004 + 2 * i) F hO hrr hq e1 e2 e3 hd e6 e4 rfl e7 e8 e9 (by rw [show 1004 + 2 * i + 1 = 1005 + 2 * i by omega]; exact e10)
    rw [show 1004 + 2 * i + 1 = 1005 + 2 * i by omega] at this
    exact this
  all_goals exact hs.elim
end
section
theorem acp_in0 : chk (fun q : Nat × Nat × Nat => .methodLink (RN q.1) q.2.1 arraycopyName) (fun q => q.2.2) lw_tbl acpL = true := by decide +kernel
theorem acp_w : Cond.native arraycopyName ∈ lw_tbl ∧ Cond.static arraycopyName ∈ lw_tbl ∧ Cond.initialized "java/lang/System" ∈ lw_tbl := ⟨chk_ok (w := fun _ : Unit => .native arraycopyName) (ps := fun _ => 1479) (es := [()]) (by decide +kernel) () List.mem_cons_self, chk_ok (w := fun _ : Unit => .static arraycopyName) (ps := fun _ => 1478) (es := [()]) (by decide +kernel) () List.mem_cons_self, chk_ok (w := fun _ : Unit => .initialized "java/lang/System") (ps := fun _ => 210) (es := [()]) (by decide +kernel) () List.mem_cons_self⟩
theorem acp_n : nativeFrameWords "java/lang/System" "arraycopy" 5 ≤ 40 := by decide +kernel
set_option maxHeartbeats 4000000 in
theorem snd_acp {E : pE} {j n0 r : Nat} {Me : pM} {p : Program} {l : Launch} {e : Env} {R : Room} {s : State} {m : MethodId} {args : Array Value} {below : List Frame} {meth : Method} {c : Code} {Qw : State → Prop} (F : Fx E j n0 r Me p R s m args meth c)
    {pc : Nat} {L : pL} {S : List pv} {n : Nat} {M : pM} {S' : List pv} {ix a b : Nat} {x y k : Int} {q : Nat × Nat × Nat} (hq : q ∈ acpL) (e1 : q.1 = mO j) (e2 : q.2.1 = ix) (hd : decode (mB j) pc = .ok (.invokestatic ix, 3)) (hk : stk S' ≤ 8) (h0 : 0 ≤ x) (h1 : 0 ≤ y) (h2 : 0 ≤ k) (h3 : x + k ≤ alw n a 0) (h4 : y + k ≤ alw n b 0) (kk : Sm E j n0 Me p l e R s m args below meth c Qw (pc + 3) L S' n (cpy M a b x.toNat y.toNat k.toNat)) : Sm E j n0 Me p l e R s m args below meth c Qw pc L (vi k :: vi y :: vr (b + 1) :: vi x :: vr (a + 1) :: S') n M := by
  intro hn1 hn2 hL hS hM hro hLl H locs ls hl hw hSS
  obtain ⟨hx, hb, hml, hown, hts, hK, hRO, hini, hRm, hRf, hsz, had, hr, hNC⟩ := F
  have hk0 : r32 k := wfS_h hS
  have hy0 : r32 y := wfS_h (wfS_t hS)
  have hx0 : r32 x := wfS_h (wfS_t (wfS_t (wfS_t hS)))
  have hS' := wfS_t (wfS_t (wfS_t (wfS_t (wfS_t hS))))
  obtain ⟨la, han, hsha, hla⟩ := alw_of (n := n) (a := a) (t := 0) (by omega)
  obtain ⟨lb, hbn, hshb, hlb⟩ := alw_of (n := n) (a := b) (t := 0) (by omega)
  have hM' : wfM (cpy M a b x.toNat y.toNat k.toNat) := by
    intro c i
    unfold cpy
    split
    · rename_i hh
      have h5 : slT c i = .int := by unfold slT; rw [hh.1, hshb]; rfl
      rw [h5]
      exact wf_arr hM hsha (by omega)
    · exact hM c i
  have hro' : ∀ c, 1000 ≤ c → cpy M a b x.toNat y.toNat k.toNat c = Me c := fun c hc => by
    have := ncell_lt hn2 hNC hbn
    rw [← hro c hc]
    funext i
    unfold cpy
    rw [if_neg (by omega)]
  have hset : (wsO E n M).set b (E.2.2.2 + b, .inl (E.2.1 0, lb, .inl (va_cpy (fun i => Int32.ofInt (M a i)) (fun i => Int32.ofInt (M b i)) x.toNat y.toNat k.toNat))) = wsO E n (cpy M a b x.toNat y.toNat k.toNat) := by
    refine wsO_set hbn (fun c hc => ?_) ?_
    · funext i; unfold cpy; rw [if_neg (by omega)]
    · rw [hshb]
      show _ = Sum.inl (E.2.1 0, lb, Sum.inl _)
      congr 4
      funext i
      unfold va_cpy cpy
      by_cases h : y.toNat ≤ i ∧ i < y.toNat + k.toNat
      · rw [if_pos h, if_pos ⟨rfl, h⟩]
      · rw [if_neg h, if_neg (fun q => h q.2)]
  have hst : (vi k :: vi y :: vr (b + 1) :: vi x :: vr (a + 1) :: S').map (cv E.2.2.1) = .int (Int32.ofInt k) :: .int (Int32.ofInt y) :: .ref (E.2.2.2 + b) :: .int (Int32.ofInt x) :: .ref (E.2.2.2 + a) :: S'.map (cv E.2.2.1) := by
    show _ :: _ :: Value.ref (E.2.2.1 b) :: _ :: Value.ref (E.2.2.1 a) :: _ = _
    rw [had a (ncell_lt hn2 hNC han), had b (ncell_lt hn2 hNC hbn)]
    rfl
  rw [hst]
  subst e2
  have nz : ∀ z : Int, r32 z → 0 ≤ z → ¬ Int32.ofInt z < 0 := fun z hz h q => by rw [show (0 : Int32) = Int32.ofInt 0 from rfl, i32_lt hz r32_0] at q; omega
  have hw5 := acp_n
  refine va_copyi hx hb (by rw [hml]; exact (hl.1.trans hLl).symm) hown (by rw [← e1]; exact hts _ (chk_ok acp_in0 q hq) rfl) (hts _ acp_w.1 rfl) (hts _ acp_w.2.1 rfl) (hts _ acp_w.2.2 rfl) hK.1 hw (wsO_D E n M) hSS a b 0 0 (ar_at han hsha (by omega)) (ar_at hbn hshb (by omega)) rfl rfl rfl (nz x hx0 h0) (nz y hy0 h1) (nz k hk0 h2) (by rw [i32_cl hx0 h0, i32_cl hk0 h2]; omega) (by rw [i32_cl hy0 h1, i32_cl hk0 h2]; omega) (fun i hi => rfl) (by omega) (by rw [stk_cv]; omega) hd (fun H1 locs1 g1 g2 g3 => ?_)
  rw [i32_cl hx0 h0, i32_cl hy0 h1, i32_cl hk0 h2, hset] at g1
  exact kk hn1 hn2 hL hS' hM' hro' hLl H1 locs1 ls hl g1 g3
theorem mO_lt : ∀ q ∈ calL, q.2.2.1 = 0 → mO q.2.2.2.1 < 13 ∨ 13 < mO q.2.2.2.1 := by decide +kernel
theorem ob_le {n a c : Nat} (h : ob n a = c) (hc : c ≠ 99) (hn : n ≤ NCELL) : c < 13 := by
  have hN : NCELL = 119 := rfl
  have h1 : ∀ a, a < 119 → (match SH a with
    | .inl x => decide (x < 13)
    | .inr _ => true) = true := by decide +kernel
  unfold ob at h
  split at h
  · rename_i hl
    have h2 := h1 a (by omega)
    cases hs : SH a with
    | inl x => rw [hs] at h h2; have h : x = c := h; have := of_decide_eq_true h2; omega
    | inr x => rw [hs] at h; exact absurd h.symm hc
  · exact absurd h.symm hc
theorem mO_99 : ∀ i, i < 325 → mO i ≠ 99 := by decide +kernel
set_option maxHeartbeats 8000000 in
theorem stp_snd {E : pE} {j n0 r : Nat} {Me : pM} {p : Program} {l : Launch} {e : Env} {R : Room} {s : State} {m : MethodId} {args : Array Value} {below : List Frame} {meth : Method} {c : Code} {Qw : State → Prop} (F : Fx E j n0 r Me p R s m args meth c) {r' : Nat} {O : pO} {Q : pQ} (hO : OS l r' O) (hrr : r' + 1 ≤ r)
    (hRi : ∀ (pc : Nat) (x : Int) (M' : pM) (H : Heap) (locs : List Loc) (ls : Array Slot), decode (mB j) pc = .ok (.ireturn, 1) → rok (mR j) x → r32 x → Q (some (vi x)) M' → wfM M' → (∀ a, 1000 ≤ a → M' a = Me a) → va_P E.1 vwCl (wsO E (n0 + mC j) M') H → va_S (AE E) s.heap H locs → W p l e R s m args below meth c H locs (n0 + mC j - n0) (slL (n0 + mC j) - slL n0) Qw (F0 m pc ls [.int (Int32.ofInt x)]))
    (hRl : ∀ (pc : Nat) (x : Int) (M' : pM) (H : Heap) (locs : List Loc) (ls : Array Slot), decode (mB j) pc = .ok (.lreturn, 1) → mR j = some .long → r64 x → Q (some (vl x)) M' → wfM M' → (∀ a, 1000 ≤ a → M' a = Me a) → va_P E.1 vwCl (wsO E (n0 + mC j) M') H → va_S (AE E) s.heap H locs → W p l e R s m args below meth c H locs (n0 + mC j - n0) (slL (n0 + mC j) - slL n0) Qw (F0 m pc ls [.long (Int64.ofInt x)]))
    (hRv : ∀ (pc : Nat) (M' : pM) (H : Heap) (locs : List Loc) (ls : Array Slot), decode (mB j) pc = .ok (.return_, 1) → mR j = none → Q none M' → wfM M' → (∀ a, 1000 ≤ a → M' a = Me a) → va_P E.1 vwCl (wsO E (n0 + mC j) M') H → va_S (AE E) s.heap H locs → W p l e R s m args below meth c H locs (n0 + mC j - n0) (slL (n0 + mC j) - slL n0) Qw (F0 m pc ls []))
    (pc : Nat) (L : pL) (S : List pv) (n : Nat) (M : pM) (hs : stp O j n0 Q (Sm E j n0 Me p l e R s m args below meth c Qw) pc L S n M) : Sm E j n0 Me p l e R s m args below meth c Qw pc L S n M := by
  obtain ⟨i, len, hd, hs⟩ := hs
  by_cases hnn : n ≤ NCELL
  case neg => exact fun h1 h2 => absurd (Nat.le_trans h2 F.2.2.2.2.2.2.2.2.2.2.2.2.2) hnn
  rcases hs with hs | hs
  case inr => exact sy_snd F hO hrr hd hs
  cases i
  case istore k => obtain ⟨L', S', h1, h2⟩ := hs; exact snd_sto F hd h1 h2
  case istore_n k => obtain ⟨L', S', h1, h2⟩ := hs; exact snd_sto F hd h1 h2
  case astore k => obtain ⟨L', S', h1, h2⟩ := hs; exact snd_sto F hd h1 h2
  case astore_n k => obtain ⟨L', S', h1, h2⟩ := hs; exact snd_sto F hd h1 h2
  case lstore k => obtain ⟨L', S', h1, h2⟩ := hs; exact snd_sto F hd h1 h2
  case lstore_n k => obtain ⟨L', S', h1, h2⟩ := hs; exact snd_sto F hd h1 h2
  case iinc k c => obtain ⟨L', S', h1, h2⟩ := hs; exact snd_sto F hd h1 h2
  case ifCond c off => obtain ⟨rfl, x, S', t, rfl, h2, h3, h4⟩ := hs; exact snd_if (S := []) F hd h2 h3 h4
  case if_icmp c off => obtain ⟨rfl, x, y, S', t, rfl, h2, h3, h4⟩ := hs; exact snd_icmp (S := []) F hd h2 h3 h4
  case goto off => obtain ⟨rfl, t, h1, h2⟩ := hs; exact snd_goto F hd h1 h2
  case tableswitch d lo hi offs => obtain ⟨x, S', rfl, h2, h3, h4⟩ := hs; exact snd_tab (S := []) F hd h2 h3 h4
  case lookupswitch d ps => obtain ⟨h0, x, S', rfl, t, h2, h3⟩ := hs; exact snd_look (S := []) F hd h0 h2 h3
  case getfield ix => obtain ⟨rfl, q, hq, e1, e2, a, S', rfl, e4, e5⟩ := hs; exact snd_get (S := []) F hq e1 e2 hd e4 e5
  case putfield ix => obtain ⟨rfl, q, hq, e1, e2, e0, a, v, x, S', rfl, e4, e6, e5⟩ := hs; exact snd_put (S := []) F hq e1 e2 hd e0 (fld_dc q hq) e4 e6 e5
  case getstatic ix => obtain ⟨rfl, q, hq, e1, e2, e5⟩ := hs; exact snd_gs F hq e1 e2 hd e5
  case iaload => obtain ⟨rfl, x, a, S', rfl, e2, e3, e5⟩ := hs; exact snd_iald (S := []) F hd e2 e3 e5
  case laload => obtain ⟨rfl, x, a, S', rfl, e2, e3, e5⟩ := hs; exact snd_lald (S := []) F hd e2 e3 e5
  case baload => obtain ⟨rfl, x, a, S', rfl, e2, e3, e5⟩ := hs; exact snd_bald (S := []) F hd e2 e3 e5
  case iastore => obtain ⟨rfl, v, x, a, S', rfl, e2, e3, e5⟩ := hs; exact snd_iast (S := []) F hd e2 e3 e5
  case lastore => obtain ⟨rfl, v, x, a, S', rfl, e2, e3, e5⟩ := hs; exact snd_last (S := []) F hd e2 e3 e5
  case bastore =>
    obtain ⟨rfl, v, x, a, S', rfl, e2, e3⟩ := hs
    rcases e3 with ⟨e3, e5⟩ | ⟨e3, e4, e5⟩
    · exact snd_bast (S := []) F hd e2 e3 e5
    · exact snd_zast (S := []) F hd e2 e3 e4 e5
  case arraylength => obtain ⟨rfl, a, S', t, rfl, e2, e5⟩ := hs; exact snd_alen (S := []) F hd e2 e5
  case newarray t =>
    obtain ⟨rfl, x, S', rfl, e2, e3, e4, e6, e7, e8, e5⟩ := hs
    rcases e6 with rfl | rfl | rfl | rfl
    · exact snd_new_int (S := []) F hd e3 e4 e7 e8 e5
    · exact snd_new_long (S := []) F hd e3 e4 e7 e8 e5
    · exact snd_new_byte (S := []) F hd e3 e4 e7 e8 e5
    · exact snd_new_boolean (S := []) F hd e3 e4 e7 e8 e5
  case new ix => obtain ⟨rfl, q, hq, e1, e2, e3, e4, e6, e5⟩ := hs; exact snd_new F hq e1 e2 hd e4 e6 e5
  case invokevirtual ix =>
    obtain ⟨rfl, q, hq, e1, e2, e3, As, b, S', rfl, e5, e6, e7, e8, e9⟩ := hs
    exact snd_callV (S := []) F hO hrr hq e1 e2 e3 hd e5 e6 (ob_le e6 (mO_99 _ (cal_rg q hq).1) hnn) e7 e8 e9
  case invokestatic ix =>
    obtain ⟨rfl, hh⟩ := hs
    rcases hh with ⟨q, hq, e1, e2, e3, hh⟩ | ⟨g0, q, hq, e1, e2, a, b, x, y, k, S', rfl, f2, f3, f4, f5, f6, f7, f8⟩
    · rcases hh with ⟨m, As, S', rfl, e5, e7, e8, e9⟩ | ⟨m, a, b, S', rfl, e5, e9⟩ | ⟨m, a, b, S', rfl, e5, e9⟩ | ⟨m, a, S', rfl, e5, e9⟩
      · exact snd_callS (S := []) F hO hrr hq e1 e2 e3 hd e5 e7 e8 e9
      · exact snd_max (S := []) F hq e1 e2 m (mth_ne q hq (by omega)) hd e5 e9
      · exact snd_min (S := []) F hq e1 e2 m (mth_ne q hq (by omega)) hd e5 e9
      · exact snd_abs (S := []) F hq e1 e2 m (mth_ne q hq (by omega)) hd e5 e9
    · exact snd_acp (S := []) F hq e1 e2 hd f2 f3 f4 f5 f6 f7 f8
  case invokespecial ix =>
    obtain ⟨rfl, hh⟩ := hs
    rcases hh with ⟨q, hq, e1, e2, b, S', rfl, e4, e5⟩ | ⟨q, hq, e1, e2, e3, As, b, S', rfl, e5, e6, e7, e8, e9, e10⟩
    · exact snd_obj (S := []) F hq e1 e2 hd e4 e5
    · exact snd_callI (S := []) F hO hrr hq e1 e2 e3 hd e5 e7 e8 e9 e10
  case ireturn =>
    obtain ⟨rfl, rfl, x, rfl, e4, e5⟩ := hs
    intro hn1 hn2 hL hS hM hro hLl H locs ls hl hw hSS
    exact hRi pc x M H locs ls hd e4 (wfS_h hS) e5 hM hro hw hSS
  case lreturn =>
    obtain ⟨rfl, rfl, e3, x, rfl, e5⟩ := hs
    intro hn1 hn2 hL hS hM hro hLl H locs ls hl hw hSS
    exact hRl pc x M H locs ls hd e3 (wfS_h hS) e5 hM hro hw hSS
  case return_ =>
    obtain ⟨rfl, rfl, e3, rfl, e5⟩ := hs
    intro hn1 hn2 hL hS hM hro hLl H locs ls hl hw hSS
    exact hRv pc M H locs ls hd e3 e5 hM hro hw hSS
  all_goals (obtain ⟨S', h1, h2⟩ := hs; exact snd_pur F hd h1 h2)
def en0 (v : pv) : pL := if catv v = 2 then [some v, none] else [some v]
/-- the locals at a method's entry -/
def ent (i : Nat) (a : List pv) : pL := a.flatMap en0 ++ List.replicate (mX i - (a.flatMap en0).length) none
theorem en_at (ad : Nat → Nat) : ∀ (a : List pv), (a.flatMap en0).length = (lg_sl (a.map (cv ad))).length ∧ ∀ (k : Nat) (v : pv), (a.flatMap en0)[k]? = some (some v) → (lg_sl (a.map (cv ad)))[k]? = some (Slot.val (cv ad v)) := by
  intro a
  induction a with
  | nil => exact ⟨rfl, fun k v h => by simp at h⟩
  | cons u a ih =>
    have e1 : (u :: a).flatMap en0 = en0 u ++ a.flatMap en0 := List.flatMap_cons
    have e2 : lg_sl ((u :: a).map (cv ad)) = (if (cv ad u).category = 2 then [.val (cv ad u), .second] else [.val (cv ad u)]) ++ lg_sl (a.map (cv ad)) := by unfold lg_sl; rw [List.map_cons, List.flatMap_cons]
    rw [e1, e2, cat_cv]
    unfold en0
    by_cases hc : catv u = 2
    · rw [if_pos hc, if_pos hc]
      refine ⟨by simp only [List.length_append, List.length_cons, List.length_nil]; have := ih.1; unfold en0 at this; omega, fun k v h => ?_⟩
      match k, h with
      | 0, h => simp at h; subst h; rfl
      | 1, h => simp at h
      | k + 2, h => simp at h ⊢; exact ih.2 k v h
    · rw [if_neg hc, if_neg hc]
      refine ⟨by simp only [List.length_append, List.length_cons, List.length_nil]; have := ih.1; unfold en0 at this; omega, fun k v h => ?_⟩
      match k, h with
      | 0, h => simp at h; subst h; rfl
      | k + 1, h => simp at h ⊢; exact ih.2 k v h
theorem ent_lr {ad : Nat → Nat} {i : Nat} {a : List pv} (h : (a.flatMap en0).length ≤ mX i) : lr ad ((lg_sl (a.map (cv ad)) ++ List.replicate (mX i - (lg_sl (a.map (cv ad))).length) Slot.unset).toArray) (ent i a) ∧ (ent i a).length = mX i := by
  obtain ⟨h1, h2⟩ := en_at ad a
  have hv := lv_entry (a.map (cv ad)) (n := mX i) (by omega)
  have hlen : (ent i a).length = mX i := by unfold ent; rw [List.length_append, List.length_replicate]; omega
  refine ⟨⟨by rw [hv.1, hlen], hv.2.1, fun k v hk => ?_⟩, hlen⟩
  unfold ent at hk
  by_cases hl : k < (a.flatMap en0).length
  · rw [List.getElem?_append_left hl] at hk
    rw [List.getElem?_toArray, List.getElem?_append_left (by omega)]
    exact h2 k v hk
  · rw [List.getElem?_append_right (by omega)] at hk
    have := List.mem_of_getElem? hk
    rw [List.mem_replicate] at this
    cases this.2
theorem ent_wf {i : Nat} {a : List pv} (h : wfS a) : wfL (ent i a) := by
  intro v hv
  unfold ent at hv
  rcases List.mem_append.mp hv with h1 | h1
  · obtain ⟨u, hu, h2⟩ := List.mem_flatMap.mp h1
    unfold en0 at h2
    split at h2 <;> simp at h2 <;> subst h2 <;> exact h _ hu
  · rw [List.mem_replicate] at h1
    cases h1.2
theorem mpl_ok : ∀ i, i < 325 → mth i = 0 → plainName (mY i).cls = true := by decide +kernel
set_option maxHeartbeats 8000000 in
/-- one room more: what the pure machine proves of the methods, the machine does -/
theorem OS_next {l : Launch} {r : Nat} {O O' : pO} (hO : OS l r O) (h : ∀ (i : Nat) (a : List pv) (n : Nat) (M : pM) (Q : pQ), i < 325 → wfS a → wfM M → O' i a n M Q → mth i = 0 ∧ (a.flatMap en0).length ≤ mX i ∧ J O i n Q 0 (ent i a) [] n M) : OS l (r + 1) O' := by
  intro i a n M Q hi hO' hwa hwM hn E had
  obtain ⟨hm, hal, hJ⟩ := h i a n M Q hi hwa hwM hO'
  refine Met.ofW (cc := mB i) (maxL := mX i) (ret := mR i) (mpl_ok i hi hm) rfl ?_
  intro p e s m args below meth c s₁ B hml hv
  obtain ⟨rfl, hsz, hP, hK, hRO⟩ := hv
  have hx := B.exec
  have hb := B.bytes
  have hr := B.returns
  have hlocks := B.notSynchronized
  have hts := atoms_spec (ws := wsM i) B.pre
  have hown : s.vm.findClass (mY i).cls = some m.cls := findClass_of_methodNamed B.named
  rw [mow_ok i hi] at hown
  have hnm : meth.name = (mY i).name := (name_of_methodNamed B.named B.method).1
  have F : Fx E i n (r + 1) M p (headSpec (wsM i) (rmM i n (r + 1))).room s m ((a.map (cv E.2.2.1)).toArray) meth c :=
    ⟨hx, hb, hml, hown, fun w hw hg => hts w (List.mem_cons_of_mem _ (TWD_in hw hg)), hK, hRO, fun hz => by rw [hnm, hz], ⟨Nat.le_refl _, Nat.le_refl _⟩, ⟨Nat.le_refl _, Nat.le_refl _⟩, hsz, had, by omega, hn⟩
  rw [lg_entry_eq]
  obtain ⟨hlr, hlen⟩ := ent_lr (ad := E.2.2.1) hal
  have hJW := hJ (Sm E i n M p l e (headSpec (wsM i) (rmM i n (r + 1))).room s m ((a.map (cv E.2.2.1)).toArray) below meth c (MQ below (QcM E i n M Q) ((a.map (cv E.2.2.1)).toArray) s (mC i) (slL (n + mC i) - slL n) (AE E))) (stp_snd F hO (Nat.le_refl _) ?_ ?_ ?_)
  · have := hJW (Nat.le_refl _) (by omega) (ent_wf hwa) (fun v hv => by cases hv) hwM (fun _ _ => rfl) hlen s.heap [] _ hlr hP va_S.rf
    simp only [Nat.sub_self] at this
    exact this
  · intro pc x M' H locs ls hd hrk hrx hq hwf hro hw hSS
    rw [Nat.add_sub_cancel_left]
    cases hR : mR i with
    | none => rw [hR] at hrk; exact hrk.elim
    | some ty =>
      rw [hR] at hr
      cases ty
      case int =>
        have hQ : QcM E i n M Q = va_Qi (fun (x : Int32) (u : Int × pM) => x = Int32.ofInt u.1 ∧ r32 u.1 ∧ Q (some (vi u.1)) u.2 ∧ wfM u.2 ∧ ∀ a, 1000 ≤ a → u.2 a = M a) (fun u t => va_P E.1 vwCl (wsO E (n + mC i) u.2) t.heap) (AE E) := by unfold QcM; rw [hR]
        rw [hQ]
        exact W.iret hx hb hr (fun t ht hW => ⟨⟨_, (x, M'), rfl, ⟨rfl, hrx, hq, hwf, hro⟩, by show va_P _ _ _ t.heap; rw [ht]; exact hw⟩, hSS.F ht⟩) hSS.2.2 hd
      case boolean =>
        have hQ : QcM E i n M Q = va_Qi (fun (x : Int32) (u : Int × pM) => x = Int32.ofInt u.1 ∧ r32 u.1 ∧ Q (some (vi u.1)) u.2 ∧ wfM u.2 ∧ ∀ a, 1000 ≤ a → u.2 a = M a) (fun u t => va_P E.1 vwCl (wsO E (n + mC i) u.2) t.heap) (AE E) := by unfold QcM; rw [hR]
        rw [hQ]
        rw [hR] at hrk
        exact W.zret hx hb hr (by rcases hrk with rfl | rfl <;> rfl) (fun t ht hW => ⟨⟨_, (x, M'), rfl, ⟨rfl, hrx, hq, hwf, hro⟩, by show va_P _ _ _ t.heap; rw [ht]; exact hw⟩, hSS.F ht⟩) hSS.2.2 hd
      case char =>
        have hQ : QcM E i n M Q = va_Qi (fun (x : Int32) (u : Int × pM) => x = Int32.ofInt u.1 ∧ r32 u.1 ∧ Q (some (vi u.1)) u.2 ∧ wfM u.2 ∧ ∀ a, 1000 ≤ a → u.2 a = M a) (fun u t => va_P E.1 vwCl (wsO E (n + mC i) u.2) t.heap) (AE E) := by unfold QcM; rw [hR]
        rw [hQ]
        rw [hR] at hrk
        exact W.zret hx hb hr (nar_c hrk) (fun t ht hW => ⟨⟨_, (x, M'), rfl, ⟨rfl, hrx, hq, hwf, hro⟩, by show va_P _ _ _ t.heap; rw [ht]; exact hw⟩, hSS.F ht⟩) hSS.2.2 hd
      case byte =>
        have hQ : QcM E i n M Q = va_Qi (fun (x : Int32) (u : Int × pM) => x = Int32.ofInt u.1 ∧ r32 u.1 ∧ Q (some (vi u.1)) u.2 ∧ wfM u.2 ∧ ∀ a, 1000 ≤ a → u.2 a = M a) (fun u t => va_P E.1 vwCl (wsO E (n + mC i) u.2) t.heap) (AE E) := by unfold QcM; rw [hR]
        rw [hQ]
        rw [hR] at hrk
        exact W.zret hx hb hr (nar_b hrk) (fun t ht hW => ⟨⟨_, (x, M'), rfl, ⟨rfl, hrx, hq, hwf, hro⟩, by show va_P _ _ _ t.heap; rw [ht]; exact hw⟩, hSS.F ht⟩) hSS.2.2 hd
      all_goals (rw [hR] at hrk; exact hrk.elim)
  · intro pc x M' H locs ls hd hrk hrx hq hwf hro hw hSS
    rw [Nat.add_sub_cancel_left]
    rw [hrk] at hr
    have hQ : QcM E i n M Q = va_Ql (fun (x : Int64) (u : Int × pM) => x = Int64.ofInt u.1 ∧ r64 u.1 ∧ Q (some (vl u.1)) u.2 ∧ wfM u.2 ∧ ∀ a, 1000 ≤ a → u.2 a = M a) (fun u t => va_P E.1 vwCl (wsO E (n + mC i) u.2) t.heap) (AE E) := by unfold QcM; rw [hrk]
    rw [hQ]
    exact W.lret hx hb hr (fun t ht hW => ⟨⟨_, (x, M'), rfl, ⟨rfl, hrx, hq, hwf, hro⟩, by show va_P _ _ _ t.heap; rw [ht]; exact hw⟩, hSS.F ht⟩) hSS.2.2 hd
  · intro pc M' H locs ls hd hrk hq hwf hro hw hSS
    rw [Nat.add_sub_cancel_left]
    rw [hrk] at hr
    have hQ : QcM E i n M Q = va_Qv (fun M' : pM => Q none M' ∧ wfM M' ∧ ∀ a, 1000 ≤ a → M' a = M a) (fun M' t => va_P E.1 vwCl (wsO E (n + mC i) M') t.heap) (AE E) := by unfold QcM; rw [hrk]
    rw [hQ]
    exact W.vret hx hb hr (fun t ht hW => ⟨⟨M', rfl, ⟨hq, hwf, hro⟩, by show va_P _ _ _ t.heap; rw [ht]; exact hw⟩, hSS.F ht⟩) hSS.2.2 hd
/-- nothing is taken for granted: no room is needed -/
theorem OS_none (l : Launch) (r : Nat) : OS l r (fun _ _ _ _ _ => False) := fun _ _ _ _ _ _ h => h.elim
end
section
def uqb (l : List (Nat × Nat)) : Bool := match l with
  | [] => true
  | a :: r => r.all (fun b => !(a.1 == b.1 && a.2 == b.2)) && uqb r
theorem uq_of {α : Type} {key : α → Nat × Nat} : ∀ {l : List α}, uqb (l.map key) = true → ∀ a ∈ l, ∀ b ∈ l, key a = key b → a = b := by
  intro l
  induction l with
  | nil => intro _ a ha; cases ha
  | cons x l ih =>
    intro h a ha b hb hk
    rw [List.map_cons] at h
    unfold uqb at h
    rw [Bool.and_eq_true] at h
    obtain ⟨h1, h2⟩ := h
    have hx : ∀ c ∈ l, key x ≠ key c := by
      intro c hc he
      have := List.all_eq_true.mp h1 (key c) (List.mem_map.mpr ⟨c, hc, rfl⟩)
      rw [he] at this
      simp at this
    rcases List.mem_cons.mp ha with ha1 | ha1
    · rcases List.mem_cons.mp hb with hb1 | hb1
      · rw [ha1, hb1]
      · rw [ha1] at hk; exact absurd hk (hx b hb1)
    · rcases List.mem_cons.mp hb with hb1 | hb1
      · rw [hb1] at hk; exact absurd hk.symm (hx a ha1)
      · exact ih h2 a ha1 b hb1 hk
theorem fld_u : uqb (fldL.map (fun q => (q.1, q.2.1))) = true := by decide +kernel
theorem cal_u : uqb (calL.map (fun q => (q.1, q.2.1))) = true := by decide +kernel
theorem new_u : uqb (newL.map (fun q => (q.1, q.2.1))) = true := by decide +kernel
theorem gs_u : uqb (gsL.map (fun q => (q.1, q.2.1))) = true := by decide +kernel
theorem cn_u : uqb (cnL.map (fun q => (q.1, q.2.1))) = true := by decide +kernel
theorem cln_u : uqb (clnL.map (fun q => (q.1, q.2.1))) = true := by decide +kernel
theorem ex_u {α : Type} {l : List α} {key : α → Nat × Nat} (hu : uqb (l.map key) = true) {q : α} (hq : q ∈ l) {a b : Nat} (e : key q = (a, b)) {p : α → Prop} : (∃ x ∈ l, (key x).1 = a ∧ (key x).2 = b ∧ p x) = p q := by
  refine propext ⟨fun h => ?_, fun h => ⟨q, hq, by rw [e], by rw [e], h⟩⟩
  obtain ⟨x, hx, h1, h2, h3⟩ := h
  have : x = q := uq_of hu x hx q hq (by rw [e, ← h1, ← h2])
  rw [← this]
  exact h3
theorem str_cn : ∀ q ∈ cnL, ∀ x ∈ strL, ¬ (q.1 = x.1 ∧ q.2.1 = x.2.1) := by decide +kernel
theorem sf_fl : ∀ q ∈ fldL, ∀ x ∈ sfL, ¬ (q.1 = x.1 ∧ q.2.1 = x.2.1) := by decide +kernel
theorem gb_gs : ∀ q ∈ gsL, ∀ x ∈ gbL, ¬ (q.1 = x.1 ∧ q.2.1 = x.2.1) := by decide +kernel
theorem fst_e {α β : Type} {a c : α} {b d : β} (e : (a, b) = (c, d)) : a = c := congrArg Prod.fst e
theorem snd_e {α β : Type} {a c : α} {b d : β} (e : (a, b) = (c, d)) : b = d := congrArg Prod.snd e
theorem J_iconst {O : pO} {j n0 : Nat} {Q : pQ} {pc : Nat} {L : pL} {S : List pv} {n : Nat} {M : pM} {v : Int} (hd : decode (mB j) pc = .ok (.iconst v, 1)) (hv : r32 v) : J O j n0 Q pc L S n M = J O j n0 Q (pc + 1) L (vi v :: S) n M := by
  rw [J_of hd (fun h => h)]; simp [sx, pur, iop, lop, hv]
theorem J_bipush {O : pO} {j n0 : Nat} {Q : pQ} {pc : Nat} {L : pL} {S : List pv} {n : Nat} {M : pM} {v : Int} (hd : decode (mB j) pc = .ok (.bipush v, 2)) (hv : -128 ≤ v ∧ v ≤ 127) : J O j n0 Q pc L S n M = J O j n0 Q (pc + 2) L (vi v :: S) n M := by
  rw [J_of hd (fun h => h)]; simp [sx, pur, iop, lop, hv]
theorem J_sipush {O : pO} {j n0 : Nat} {Q : pQ} {pc : Nat} {L : pL} {S : List pv} {n : Nat} {M : pM} {v : Int} (hd : decode (mB j) pc = .ok (.sipush v, 3)) (hv : -32768 ≤ v ∧ v ≤ 32767) : J O j n0 Q pc L S n M = J O j n0 Q (pc + 3) L (vi v :: S) n M := by
  rw [J_of hd (fun h => h)]; simp [sx, pur, iop, lop, hv]
theorem J_lconst {O : pO} {j n0 : Nat} {Q : pQ} {pc : Nat} {L : pL} {S : List pv} {n : Nat} {M : pM} {v : Fin 2} (hd : decode (mB j) pc = .ok (.lconst v, 1)) : J O j n0 Q pc L S n M = J O j n0 Q (pc + 1) L (vl ((v : Nat) : Int) :: S) n M := by
  rw [J_of hd (fun h => h)]; simp [sx, pur, iop, lop]
theorem J_ldc {O : pO} {j n0 : Nat} {Q : pQ} {pc : Nat} {L : pL} {S : List pv} {n : Nat} {M : pM} {ix : Nat} {q : Nat × Nat × Int × Nat} (hq : q ∈ cnL) (e : (q.1, q.2.1) = (mO j, ix)) (hd : decode (mB j) pc = .ok (.ldc ix, 2)) : J O j n0 Q pc L S n M = J O j n0 Q (pc + 2) L (vi q.2.2.1 :: S) n M := by
  rw [J_of hd (fun ⟨_, x, hx, h1, h2, _⟩ => str_cn q hq x hx ⟨(fst_e e).trans h1.symm, (snd_e e).trans h2.symm⟩)]
  show (∃ S', (2 = 2 ∧ ∃ x ∈ cnL, x.1 = mO j ∧ x.2.1 = ix ∧ S' = vi x.2.2.1 :: S) ∧ _) = _
  refine propext ⟨fun h => ?_, fun h => ⟨_, ⟨rfl, q, hq, congrArg Prod.fst e, congrArg Prod.snd e, rfl⟩, h⟩⟩
  obtain ⟨S', ⟨-, x, hx, h1, h2, rfl⟩, h3⟩ := h
  have : x = q := uq_of cn_u x hx q hq (by rw [show (x.1, x.2.1) = (mO j, ix) from by rw [h1, h2], e])
  rw [← this]
  exact h3
theorem J_ldc_w {O : pO} {j n0 : Nat} {Q : pQ} {pc : Nat} {L : pL} {S : List pv} {n : Nat} {M : pM} {ix : Nat} {q : Nat × Nat × Int × Nat} (hq : q ∈ cnL) (e : (q.1, q.2.1) = (mO j, ix)) (hd : decode (mB j) pc = .ok (.ldc_w ix, 3)) : J O j n0 Q pc L S n M = J O j n0 Q (pc + 3) L (vi q.2.2.1 :: S) n M := by
  rw [J_of hd (fun h => h)]
  show (∃ S', (3 = 3 ∧ ∃ x ∈ cnL, x.1 = mO j ∧ x.2.1 = ix ∧ S' = vi x.2.2.1 :: S) ∧ _) = _
  refine propext ⟨fun h => ?_, fun h => ⟨_, ⟨rfl, q, hq, congrArg Prod.fst e, congrArg Prod.snd e, rfl⟩, h⟩⟩
  obtain ⟨S', ⟨-, x, hx, h1, h2, rfl⟩, h3⟩ := h
  have : x = q := uq_of cn_u x hx q hq (by rw [show (x.1, x.2.1) = (mO j, ix) from by rw [h1, h2], e])
  rw [← this]
  exact h3
theorem J_ldc2_w {O : pO} {j n0 : Nat} {Q : pQ} {pc : Nat} {L : pL} {S : List pv} {n : Nat} {M : pM} {ix : Nat} {q : Nat × Nat × Int × Nat} (hq : q ∈ clnL) (e : (q.1, q.2.1) = (mO j, ix)) (hd : decode (mB j) pc = .ok (.ldc2_w ix, 3)) : J O j n0 Q pc L S n M = J O j n0 Q (pc + 3) L (vl q.2.2.1 :: S) n M := by
  rw [J_of hd (fun h => h)]
  show (∃ S', (3 = 3 ∧ ∃ x ∈ clnL, x.1 = mO j ∧ x.2.1 = ix ∧ S' = vl x.2.2.1 :: S) ∧ _) = _
  refine propext ⟨fun h => ?_, fun h => ⟨_, ⟨rfl, q, hq, congrArg Prod.fst e, congrArg Prod.snd e, rfl⟩, h⟩⟩
  obtain ⟨S', ⟨-, x, hx, h1, h2, rfl⟩, h3⟩ := h
  have : x = q := uq_of cln_u x hx q hq (by rw [show (x.1, x.2.1) = (mO j, ix) from by rw [h1, h2], e])
  rw [← this]
  exact h3
theorem J_iload {O : pO} {j n0 : Nat} {Q : pQ} {pc : Nat} {L : pL} {S : List pv} {n : Nat} {M : pM} {k : Nat} {x : Int} (hd : decode (mB j) pc = .ok (.iload k, 2)) (hl : L[k]? = some (some (vi x))) : J O j n0 Q pc L S n M = J O j n0 Q (pc + 2) L (vi x :: S) n M := by
  rw [J_of hd (fun h => h)]; simp [sx, pur, iop, lop, hl]
theorem J_iload_n {O : pO} {j n0 : Nat} {Q : pQ} {pc : Nat} {L : pL} {S : List pv} {n : Nat} {M : pM} {k : Fin 4} {x : Int} (hd : decode (mB j) pc = .ok (.iload_n k, 1)) (hl : L[(k : Nat)]? = some (some (vi x))) : J O j n0 Q pc L S n M = J O j n0 Q (pc + 1) L (vi x :: S) n M := by
  rw [J_of hd (fun h => h)]; simp [sx, pur, iop, lop, hl]
theorem J_lload {O : pO} {j n0 : Nat} {Q : pQ} {pc : Nat} {L : pL} {S : List pv} {n : Nat} {M : pM} {k : Nat} {x : Int} (hd : decode (mB j) pc = .ok (.lload k, 2)) (hl : L[k]? = some (some (vl x))) : J O j n0 Q pc L S n M = J O j n0 Q (pc + 2) L (vl x :: S) n M := by
  rw [J_of hd (fun h => h)]; simp [sx, pur, iop, lop, hl]
theorem J_lload_n {O : pO} {j n0 : Nat} {Q : pQ} {pc : Nat} {L : pL} {S : List pv} {n : Nat} {M : pM} {k : Fin 4} {x : Int} (hd : decode (mB j) pc = .ok (.lload_n k, 1)) (hl : L[(k : Nat)]? = some (some (vl x))) : J O j n0 Q pc L S n M = J O j n0 Q (pc + 1) L (vl x :: S) n M := by
  rw [J_of hd (fun h => h)]; simp [sx, pur, iop, lop, hl]
theorem J_aload {O : pO} {j n0 : Nat} {Q : pQ} {pc : Nat} {L : pL} {S : List pv} {n : Nat} {M : pM} {k : Nat} {x : Nat} (hd : decode (mB j) pc = .ok (.aload k, 2)) (hl : L[k]? = some (some (vr x))) : J O j n0 Q pc L S n M = J O j n0 Q (pc + 2) L (vr x :: S) n M := by
  rw [J_of hd (fun h => h)]; simp [sx, pur, iop, lop, hl]
theorem J_aload_n {O : pO} {j n0 : Nat} {Q : pQ} {pc : Nat} {L : pL} {S : List pv} {n : Nat} {M : pM} {k : Fin 4} {x : Nat} (hd : decode (mB j) pc = .ok (.aload_n k, 1)) (hl : L[(k : Nat)]? = some (some (vr x))) : J O j n0 Q pc L S n M = J O j n0 Q (pc + 1) L (vr x :: S) n M := by
  rw [J_of hd (fun h => h)]; simp [sx, pur, iop, lop, hl]
theorem J_dup {O : pO} {j n0 : Nat} {Q : pQ} {pc : Nat} {L : pL} {S : List pv} {n : Nat} {M : pM} {v : pv} (hd : decode (mB j) pc = .ok (.dup, 1)) (hc : catv v = 1) : J O j n0 Q pc L (v :: S) n M = J O j n0 Q (pc + 1) L (v :: v :: S) n M := by
  rw [J_of hd (fun h => h)]; simp [sx, pur, iop, lop, hc]
theorem J_pop {O : pO} {j n0 : Nat} {Q : pQ} {pc : Nat} {L : pL} {S : List pv} {n : Nat} {M : pM} {v : pv} (hd : decode (mB j) pc = .ok (.pop, 1)) (hc : catv v = 1) : J O j n0 Q pc L (v :: S) n M = J O j n0 Q (pc + 1) L S n M := by
  rw [J_of hd (fun h => h)]
  refine propext ⟨fun h => ?_, fun h => ⟨_, ⟨rfl, v, S, rfl, hc, rfl⟩, h⟩⟩
  obtain ⟨S', ⟨-, v', S0, h1, -, rfl⟩, h3⟩ := h
  cases h1
  exact h3
theorem J_dup2 {O : pO} {j n0 : Nat} {Q : pQ} {pc : Nat} {L : pL} {S : List pv} {n : Nat} {M : pM} {v u : pv} (hd : decode (mB j) pc = .ok (.dup2, 1)) (hc : catv v = 1) (hc2 : catv u = 1) : J O j n0 Q pc L (v :: u :: S) n M = J O j n0 Q (pc + 1) L (v :: u :: v :: u :: S) n M := by
  rw [J_of hd (fun h => h)]; simp [sx, pur, iop, lop, hc, hc2]
theorem J_ineg {O : pO} {j n0 : Nat} {Q : pQ} {pc : Nat} {L : pL} {S : List pv} {n : Nat} {M : pM} {a : Int} (hd : decode (mB j) pc = .ok (.ineg, 1)) : J O j n0 Q pc L (vi a :: S) n M = J O j n0 Q (pc + 1) L (vi (w32 (-a)) :: S) n M := by
  rw [J_of hd (fun h => h)]; simp [sx, pur, iop, lop]
theorem J_i2l {O : pO} {j n0 : Nat} {Q : pQ} {pc : Nat} {L : pL} {S : List pv} {n : Nat} {M : pM} {a : Int} (hd : decode (mB j) pc = .ok (.i2l, 1)) : J O j n0 Q pc L (vi a :: S) n M = J O j n0 Q (pc + 1) L (vl a :: S) n M := by
  rw [J_of hd (fun h => h)]; simp [sx, pur, iop, lop]
theorem J_i2b {O : pO} {j n0 : Nat} {Q : pQ} {pc : Nat} {L : pL} {S : List pv} {n : Nat} {M : pM} {a : Int} (hd : decode (mB j) pc = .ok (.i2b, 1)) : J O j n0 Q pc L (vi a :: S) n M = J O j n0 Q (pc + 1) L (vi (w8 a) :: S) n M := by
  rw [J_of hd (fun h => h)]; simp [sx, pur, iop, lop]
theorem J_l2i {O : pO} {j n0 : Nat} {Q : pQ} {pc : Nat} {L : pL} {S : List pv} {n : Nat} {M : pM} {a : Int} (hd : decode (mB j) pc = .ok (.l2i, 1)) : J O j n0 Q pc L (vl a :: S) n M = J O j n0 Q (pc + 1) L (vi (Int64.ofInt a).toInt32.toInt :: S) n M := by
  rw [J_of hd (fun h => h)]
  refine propext ⟨fun h => ?_, fun h => ⟨_, ⟨rfl, a, S, rfl, rfl⟩, h⟩⟩
  obtain ⟨S', ⟨-, a', S0, h1, rfl⟩, h3⟩ := h
  cases h1
  exact h3
theorem J_i2c {O : pO} {j n0 : Nat} {Q : pQ} {pc : Nat} {L : pL} {S : List pv} {n : Nat} {M : pM} {a : Int} (hd : decode (mB j) pc = .ok (.i2c, 1)) : J O j n0 Q pc L (vi a :: S) n M = J O j n0 Q (pc + 1) L (vi ((Int32.ofInt a).toUInt32 % 65536).toInt32.toInt :: S) n M := by
  rw [J_of hd (fun h => h)]; simp [sx, pur, iop, lop]
theorem J_idiv {O : pO} {j n0 : Nat} {Q : pQ} {pc : Nat} {L : pL} {S : List pv} {n : Nat} {M : pM} {a b : Int} (hd : decode (mB j) pc = .ok (.idiv, 1)) : J O j n0 Q pc L (vi b :: vi a :: S) n M = (¬ b = 0 ∧ J O j n0 Q (pc + 1) L (vi (w32 (a.tdiv b)) :: S) n M) := by
  rw [J_of hd (fun h => h)]
  refine propext ⟨fun h => ?_, fun h => ⟨_, ⟨rfl, a, b, S, rfl, h.1, rfl⟩, h.2⟩⟩
  obtain ⟨S', ⟨-, a', b', S0, h1, h2, rfl⟩, h3⟩ := h
  cases h1
  exact ⟨h2, h3⟩
theorem J_irem {O : pO} {j n0 : Nat} {Q : pQ} {pc : Nat} {L : pL} {S : List pv} {n : Nat} {M : pM} {a b : Int} (hd : decode (mB j) pc = .ok (.irem, 1)) : J O j n0 Q pc L (vi b :: vi a :: S) n M = (¬ b = 0 ∧ J O j n0 Q (pc + 1) L (vi (a.tmod b) :: S) n M) := by
  rw [J_of hd (fun h => h)]
  refine propext ⟨fun h => ?_, fun h => ⟨_, ⟨rfl, a, b, S, rfl, h.1, rfl⟩, h.2⟩⟩
  obtain ⟨S', ⟨-, a', b', S0, h1, h2, rfl⟩, h3⟩ := h
  cases h1
  exact ⟨h2, h3⟩
theorem J_lcmp {O : pO} {j n0 : Nat} {Q : pQ} {pc : Nat} {L : pL} {S : List pv} {n : Nat} {M : pM} {a b : Int} (hd : decode (mB j) pc = .ok (.lcmp, 1)) : J O j n0 Q pc L (vl b :: vl a :: S) n M = J O j n0 Q (pc + 1) L (vi (if b < a then 1 else if a = b then 0 else -1) :: S) n M := by
  rw [J_of hd (fun h => h)]
  refine propext ⟨fun h => ?_, fun h => ⟨_, ⟨rfl, a, b, S, rfl, rfl⟩, h⟩⟩
  obtain ⟨S', ⟨-, a', b', S0, h1, rfl⟩, h3⟩ := h
  cases h1
  exact h3
theorem J_lshl {O : pO} {j n0 : Nat} {Q : pQ} {pc : Nat} {L : pL} {S : List pv} {n : Nat} {M : pM} {a b : Int} (hd : decode (mB j) pc = .ok (.lshl, 1)) : J O j n0 Q pc L (vi b :: vl a :: S) n M = J O j n0 Q (pc + 1) L (vl ((Int64.ofInt a <<< ((Int32.ofInt b).toInt64 &&& 63)).toInt) :: S) n M := by
  rw [J_of hd (fun h => h)]
  refine propext ⟨fun h => ?_, fun h => ⟨_, ⟨rfl, a, b, S, rfl, rfl⟩, h⟩⟩
  obtain ⟨S', ⟨-, a', b', S0, h1, rfl⟩, h3⟩ := h
  cases h1
  exact h3
theorem J_lshr {O : pO} {j n0 : Nat} {Q : pQ} {pc : Nat} {L : pL} {S : List pv} {n : Nat} {M : pM} {a b : Int} (hd : decode (mB j) pc = .ok (.lshr, 1)) : J O j n0 Q pc L (vi b :: vl a :: S) n M = J O j n0 Q (pc + 1) L (vl ((Int64.ofInt a >>> ((Int32.ofInt b).toInt64 &&& 63)).toInt) :: S) n M := by
  rw [J_of hd (fun h => h)]
  refine propext ⟨fun h => ?_, fun h => ⟨_, ⟨rfl, a, b, S, rfl, rfl⟩, h⟩⟩
  obtain ⟨S', ⟨-, a', b', S0, h1, rfl⟩, h3⟩ := h
  cases h1
  exact h3
theorem J_lushr {O : pO} {j n0 : Nat} {Q : pQ} {pc : Nat} {L : pL} {S : List pv} {n : Nat} {M : pM} {a b : Int} (hd : decode (mB j) pc = .ok (.lushr, 1)) : J O j n0 Q pc L (vi b :: vl a :: S) n M = J O j n0 Q (pc + 1) L (vl (((Int64.ofInt a).toUInt64 >>> ((Int32.ofInt b).toInt64.toUInt64 &&& Int64.toUInt64 63)).toInt64.toInt) :: S) n M := by
  rw [J_of hd (fun h => h)]
  refine propext ⟨fun h => ?_, fun h => ⟨_, ⟨rfl, a, b, S, rfl, rfl⟩, h⟩⟩
  obtain ⟨S', ⟨-, a', b', S0, h1, rfl⟩, h3⟩ := h
  cases h1
  exact h3
theorem J_iadd {O : pO} {j n0 : Nat} {Q : pQ} {pc : Nat} {L : pL} {S : List pv} {n : Nat} {M : pM} {a b : Int} (hd : decode (mB j) pc = .ok (.iadd, 1)) : J O j n0 Q pc L (vi b :: vi a :: S) n M = J O j n0 Q (pc + 1) L (vi (w32 (a + b)) :: S) n M := by
  rw [J_of hd (fun h => h)]
  refine propext ⟨fun h => ?_, fun h => ⟨_, ⟨rfl, Or.inl ⟨_, a, b, S, rfl, rfl, rfl⟩⟩, h⟩⟩
  obtain ⟨S', ⟨-, ⟨f, a', b', S0, hf, h1, rfl⟩ | ⟨f, a', b', S0, hf, -⟩⟩, h3⟩ := h
  · cases h1; cases hf; exact h3
  · cases hf
theorem J_isub {O : pO} {j n0 : Nat} {Q : pQ} {pc : Nat} {L : pL} {S : List pv} {n : Nat} {M : pM} {a b : Int} (hd : decode (mB j) pc = .ok (.isub, 1)) : J O j n0 Q pc L (vi b :: vi a :: S) n M = J O j n0 Q (pc + 1) L (vi (w32 (a - b)) :: S) n M := by
  rw [J_of hd (fun h => h)]
  refine propext ⟨fun h => ?_, fun h => ⟨_, ⟨rfl, Or.inl ⟨_, a, b, S, rfl, rfl, rfl⟩⟩, h⟩⟩
  obtain ⟨S', ⟨-, ⟨f, a', b', S0, hf, h1, rfl⟩ | ⟨f, a', b', S0, hf, -⟩⟩, h3⟩ := h
  · cases h1; cases hf; exact h3
  · cases hf
theorem J_imul {O : pO} {j n0 : Nat} {Q : pQ} {pc : Nat} {L : pL} {S : List pv} {n : Nat} {M : pM} {a b : Int} (hd : decode (mB j) pc = .ok (.imul, 1)) : J O j n0 Q pc L (vi b :: vi a :: S) n M = J O j n0 Q (pc + 1) L (vi (w32 (a * b)) :: S) n M := by
  rw [J_of hd (fun h => h)]
  refine propext ⟨fun h => ?_, fun h => ⟨_, ⟨rfl, Or.inl ⟨_, a, b, S, rfl, rfl, rfl⟩⟩, h⟩⟩
  obtain ⟨S', ⟨-, ⟨f, a', b', S0, hf, h1, rfl⟩ | ⟨f, a', b', S0, hf, -⟩⟩, h3⟩ := h
  · cases h1; cases hf; exact h3
  · cases hf
theorem J_iand {O : pO} {j n0 : Nat} {Q : pQ} {pc : Nat} {L : pL} {S : List pv} {n : Nat} {M : pM} {a b : Int} (hd : decode (mB j) pc = .ok (.iand, 1)) : J O j n0 Q pc L (vi b :: vi a :: S) n M = J O j n0 Q (pc + 1) L (vi ((Int32.ofInt a &&& Int32.ofInt b).toInt) :: S) n M := by
  rw [J_of hd (fun h => h)]
  refine propext ⟨fun h => ?_, fun h => ⟨_, ⟨rfl, Or.inl ⟨_, a, b, S, rfl, rfl, rfl⟩⟩, h⟩⟩
  obtain ⟨S', ⟨-, ⟨f, a', b', S0, hf, h1, rfl⟩ | ⟨f, a', b', S0, hf, -⟩⟩, h3⟩ := h
  · cases h1; cases hf; exact h3
  · cases hf
theorem J_ior {O : pO} {j n0 : Nat} {Q : pQ} {pc : Nat} {L : pL} {S : List pv} {n : Nat} {M : pM} {a b : Int} (hd : decode (mB j) pc = .ok (.ior, 1)) : J O j n0 Q pc L (vi b :: vi a :: S) n M = J O j n0 Q (pc + 1) L (vi ((Int32.ofInt a ||| Int32.ofInt b).toInt) :: S) n M := by
  rw [J_of hd (fun h => h)]
  refine propext ⟨fun h => ?_, fun h => ⟨_, ⟨rfl, Or.inl ⟨_, a, b, S, rfl, rfl, rfl⟩⟩, h⟩⟩
  obtain ⟨S', ⟨-, ⟨f, a', b', S0, hf, h1, rfl⟩ | ⟨f, a', b', S0, hf, -⟩⟩, h3⟩ := h
  · cases h1; cases hf; exact h3
  · cases hf
theorem J_ixor {O : pO} {j n0 : Nat} {Q : pQ} {pc : Nat} {L : pL} {S : List pv} {n : Nat} {M : pM} {a b : Int} (hd : decode (mB j) pc = .ok (.ixor, 1)) : J O j n0 Q pc L (vi b :: vi a :: S) n M = J O j n0 Q (pc + 1) L (vi ((Int32.ofInt a ^^^ Int32.ofInt b).toInt) :: S) n M := by
  rw [J_of hd (fun h => h)]
  refine propext ⟨fun h => ?_, fun h => ⟨_, ⟨rfl, Or.inl ⟨_, a, b, S, rfl, rfl, rfl⟩⟩, h⟩⟩
  obtain ⟨S', ⟨-, ⟨f, a', b', S0, hf, h1, rfl⟩ | ⟨f, a', b', S0, hf, -⟩⟩, h3⟩ := h
  · cases h1; cases hf; exact h3
  · cases hf
theorem J_ishl {O : pO} {j n0 : Nat} {Q : pQ} {pc : Nat} {L : pL} {S : List pv} {n : Nat} {M : pM} {a b : Int} (hd : decode (mB j) pc = .ok (.ishl, 1)) : J O j n0 Q pc L (vi b :: vi a :: S) n M = J O j n0 Q (pc + 1) L (vi ((Int32.ofInt a <<< (Int32.ofInt b &&& 31)).toInt) :: S) n M := by
  rw [J_of hd (fun h => h)]
  refine propext ⟨fun h => ?_, fun h => ⟨_, ⟨rfl, Or.inl ⟨_, a, b, S, rfl, rfl, rfl⟩⟩, h⟩⟩
  obtain ⟨S', ⟨-, ⟨f, a', b', S0, hf, h1, rfl⟩ | ⟨f, a', b', S0, hf, -⟩⟩, h3⟩ := h
  · cases h1; cases hf; exact h3
  · cases hf
theorem J_ishr {O : pO} {j n0 : Nat} {Q : pQ} {pc : Nat} {L : pL} {S : List pv} {n : Nat} {M : pM} {a b : Int} (hd : decode (mB j) pc = .ok (.ishr, 1)) : J O j n0 Q pc L (vi b :: vi a :: S) n M = J O j n0 Q (pc + 1) L (vi ((Int32.ofInt a >>> (Int32.ofInt b &&& 31)).toInt) :: S) n M := by
  rw [J_of hd (fun h => h)]
  refine propext ⟨fun h => ?_, fun h => ⟨_, ⟨rfl, Or.inl ⟨_, a, b, S, rfl, rfl, rfl⟩⟩, h⟩⟩
  obtain ⟨S', ⟨-, ⟨f, a', b', S0, hf, h1, rfl⟩ | ⟨f, a', b', S0, hf, -⟩⟩, h3⟩ := h
  · cases h1; cases hf; exact h3
  · cases hf
theorem J_iushr {O : pO} {j n0 : Nat} {Q : pQ} {pc : Nat} {L : pL} {S : List pv} {n : Nat} {M : pM} {a b : Int} (hd : decode (mB j) pc = .ok (.iushr, 1)) : J O j n0 Q pc L (vi b :: vi a :: S) n M = J O j n0 Q (pc + 1) L (vi (((Int32.ofInt a).toUInt32 >>> ((Int32.ofInt b).toUInt32 &&& Int32.toUInt32 31)).toInt32.toInt) :: S) n M := by
  rw [J_of hd (fun h => h)]
  refine propext ⟨fun h => ?_, fun h => ⟨_, ⟨rfl, Or.inl ⟨_, a, b, S, rfl, rfl, rfl⟩⟩, h⟩⟩
  obtain ⟨S', ⟨-, ⟨f, a', b', S0, hf, h1, rfl⟩ | ⟨f, a', b', S0, hf, -⟩⟩, h3⟩ := h
  · cases h1; cases hf; exact h3
  · cases hf
theorem J_ladd {O : pO} {j n0 : Nat} {Q : pQ} {pc : Nat} {L : pL} {S : List pv} {n : Nat} {M : pM} {a b : Int} (hd : decode (mB j) pc = .ok (.ladd, 1)) : J O j n0 Q pc L (vl b :: vl a :: S) n M = J O j n0 Q (pc + 1) L (vl ((Int64.ofInt a + Int64.ofInt b).toInt) :: S) n M := by
  rw [J_of hd (fun h => h)]
  refine propext ⟨fun h => ?_, fun h => ⟨_, ⟨rfl, Or.inr ⟨_, a, b, S, rfl, rfl, rfl⟩⟩, h⟩⟩
  obtain ⟨S', ⟨-, ⟨f, a', b', S0, hf, -⟩ | ⟨f, a', b', S0, hf, h1, rfl⟩⟩, h3⟩ := h
  · cases hf
  · cases h1; cases hf; exact h3
theorem J_lsub {O : pO} {j n0 : Nat} {Q : pQ} {pc : Nat} {L : pL} {S : List pv} {n : Nat} {M : pM} {a b : Int} (hd : decode (mB j) pc = .ok (.lsub, 1)) : J O j n0 Q pc L (vl b :: vl a :: S) n M = J O j n0 Q (pc + 1) L (vl ((Int64.ofInt a - Int64.ofInt b).toInt) :: S) n M := by
  rw [J_of hd (fun h => h)]
  refine propext ⟨fun h => ?_, fun h => ⟨_, ⟨rfl, Or.inr ⟨_, a, b, S, rfl, rfl, rfl⟩⟩, h⟩⟩
  obtain ⟨S', ⟨-, ⟨f, a', b', S0, hf, -⟩ | ⟨f, a', b', S0, hf, h1, rfl⟩⟩, h3⟩ := h
  · cases hf
  · cases h1; cases hf; exact h3
theorem J_lmul {O : pO} {j n0 : Nat} {Q : pQ} {pc : Nat} {L : pL} {S : List pv} {n : Nat} {M : pM} {a b : Int} (hd : decode (mB j) pc = .ok (.lmul, 1)) : J O j n0 Q pc L (vl b :: vl a :: S) n M = J O j n0 Q (pc + 1) L (vl ((Int64.ofInt a * Int64.ofInt b).toInt) :: S) n M := by
  rw [J_of hd (fun h => h)]
  refine propext ⟨fun h => ?_, fun h => ⟨_, ⟨rfl, Or.inr ⟨_, a, b, S, rfl, rfl, rfl⟩⟩, h⟩⟩
  obtain ⟨S', ⟨-, ⟨f, a', b', S0, hf, -⟩ | ⟨f, a', b', S0, hf, h1, rfl⟩⟩, h3⟩ := h
  · cases hf
  · cases h1; cases hf; exact h3
theorem J_land {O : pO} {j n0 : Nat} {Q : pQ} {pc : Nat} {L : pL} {S : List pv} {n : Nat} {M : pM} {a b : Int} (hd : decode (mB j) pc = .ok (.land, 1)) : J O j n0 Q pc L (vl b :: vl a :: S) n M = J O j n0 Q (pc + 1) L (vl ((Int64.ofInt a &&& Int64.ofInt b).toInt) :: S) n M := by
  rw [J_of hd (fun h => h)]
  refine propext ⟨fun h => ?_, fun h => ⟨_, ⟨rfl, Or.inr ⟨_, a, b, S, rfl, rfl, rfl⟩⟩, h⟩⟩
  obtain ⟨S', ⟨-, ⟨f, a', b', S0, hf, -⟩ | ⟨f, a', b', S0, hf, h1, rfl⟩⟩, h3⟩ := h
  · cases hf
  · cases h1; cases hf; exact h3
theorem J_lor {O : pO} {j n0 : Nat} {Q : pQ} {pc : Nat} {L : pL} {S : List pv} {n : Nat} {M : pM} {a b : Int} (hd : decode (mB j) pc = .ok (.lor, 1)) : J O j n0 Q pc L (vl b :: vl a :: S) n M = J O j n0 Q (pc + 1) L (vl ((Int64.ofInt a ||| Int64.ofInt b).toInt) :: S) n M := by
  rw [J_of hd (fun h => h)]
  refine propext ⟨fun h => ?_, fun h => ⟨_, ⟨rfl, Or.inr ⟨_, a, b, S, rfl, rfl, rfl⟩⟩, h⟩⟩
  obtain ⟨S', ⟨-, ⟨f, a', b', S0, hf, -⟩ | ⟨f, a', b', S0, hf, h1, rfl⟩⟩, h3⟩ := h
  · cases hf
  · cases h1; cases hf; exact h3
theorem J_lxor {O : pO} {j n0 : Nat} {Q : pQ} {pc : Nat} {L : pL} {S : List pv} {n : Nat} {M : pM} {a b : Int} (hd : decode (mB j) pc = .ok (.lxor, 1)) : J O j n0 Q pc L (vl b :: vl a :: S) n M = J O j n0 Q (pc + 1) L (vl ((Int64.ofInt a ^^^ Int64.ofInt b).toInt) :: S) n M := by
  rw [J_of hd (fun h => h)]
  refine propext ⟨fun h => ?_, fun h => ⟨_, ⟨rfl, Or.inr ⟨_, a, b, S, rfl, rfl, rfl⟩⟩, h⟩⟩
  obtain ⟨S', ⟨-, ⟨f, a', b', S0, hf, -⟩ | ⟨f, a', b', S0, hf, h1, rfl⟩⟩, h3⟩ := h
  · cases hf
  · cases h1; cases hf; exact h3
theorem J_istore {O : pO} {j n0 : Nat} {Q : pQ} {pc : Nat} {L : pL} {S : List pv} {n : Nat} {M : pM} {k : Nat} {x : Int} {L' : pL} (hd : decode (mB j) pc = .ok (.istore k, 2)) (hk : k < L.length) (hL : (kil L k).set k (some (vi x)) = L') : J O j n0 Q pc L (vi x :: S) n M = J O j n0 Q (pc + 2) L' S n M := by
  rw [J_of hd (fun h => h)]
  refine propext ⟨fun h => ?_, fun h => ⟨_, _, ⟨rfl, x, rfl, hk, hL.symm⟩, h⟩⟩
  obtain ⟨L1, S1, ⟨-, x1, h1, -, rfl⟩, h3⟩ := h
  cases h1
  rw [hL] at h3
  exact h3
theorem J_istore_n {O : pO} {j n0 : Nat} {Q : pQ} {pc : Nat} {L : pL} {S : List pv} {n : Nat} {M : pM} {k : Fin 4} {x : Int} {L' : pL} (hd : decode (mB j) pc = .ok (.istore_n k, 1)) (hk : (k : Nat) < L.length) (hL : (kil L (k : Nat)).set (k : Nat) (some (vi x)) = L') : J O j n0 Q pc L (vi x :: S) n M = J O j n0 Q (pc + 1) L' S n M := by
  rw [J_of hd (fun h => h)]
  refine propext ⟨fun h => ?_, fun h => ⟨_, _, ⟨rfl, x, rfl, hk, hL.symm⟩, h⟩⟩
  obtain ⟨L1, S1, ⟨-, x1, h1, -, rfl⟩, h3⟩ := h
  cases h1
  rw [hL] at h3
  exact h3
theorem J_astore {O : pO} {j n0 : Nat} {Q : pQ} {pc : Nat} {L : pL} {S : List pv} {n : Nat} {M : pM} {k : Nat} {x : Nat} {L' : pL} (hd : decode (mB j) pc = .ok (.astore k, 2)) (hk : k < L.length) (hL : (kil L k).set k (some (vr x)) = L') : J O j n0 Q pc L (vr x :: S) n M = J O j n0 Q (pc + 2) L' S n M := by
  rw [J_of hd (fun h => h)]
  refine propext ⟨fun h => ?_, fun h => ⟨_, _, ⟨rfl, x, rfl, hk, hL.symm⟩, h⟩⟩
  obtain ⟨L1, S1, ⟨-, x1, h1, -, rfl⟩, h3⟩ := h
  cases h1
  rw [hL] at h3
  exact h3
theorem J_astore_n {O : pO} {j n0 : Nat} {Q : pQ} {pc : Nat} {L : pL} {S : List pv} {n : Nat} {M : pM} {k : Fin 4} {x : Nat} {L' : pL} (hd : decode (mB j) pc = .ok (.astore_n k, 1)) (hk : (k : Nat) < L.length) (hL : (kil L (k : Nat)).set (k : Nat) (some (vr x)) = L') : J O j n0 Q pc L (vr x :: S) n M = J O j n0 Q (pc + 1) L' S n M := by
  rw [J_of hd (fun h => h)]
  refine propext ⟨fun h => ?_, fun h => ⟨_, _, ⟨rfl, x, rfl, hk, hL.symm⟩, h⟩⟩
  obtain ⟨L1, S1, ⟨-, x1, h1, -, rfl⟩, h3⟩ := h
  cases h1
  rw [hL] at h3
  exact h3
theorem J_lstore {O : pO} {j n0 : Nat} {Q : pQ} {pc : Nat} {L : pL} {S : List pv} {n : Nat} {M : pM} {k : Nat} {x : Int} {L' : pL} (hd : decode (mB j) pc = .ok (.lstore k, 2)) (hk : k + 1 < L.length) (hL : ((kil L k).set k (some (vl x))).set (k + 1) none = L') : J O j n0 Q pc L (vl x :: S) n M = J O j n0 Q (pc + 2) L' S n M := by
  rw [J_of hd (fun h => h)]
  refine propext ⟨fun h => ?_, fun h => ⟨_, _, ⟨rfl, x, rfl, hk, hL.symm⟩, h⟩⟩
  obtain ⟨L1, S1, ⟨-, x1, h1, -, rfl⟩, h3⟩ := h
  cases h1
  rw [hL] at h3
  exact h3
theorem J_lstore_n {O : pO} {j n0 : Nat} {Q : pQ} {pc : Nat} {L : pL} {S : List pv} {n : Nat} {M : pM} {k : Fin 4} {x : Int} {L' : pL} (hd : decode (mB j) pc = .ok (.lstore_n k, 1)) (hk : (k : Nat) + 1 < L.length) (hL : ((kil L (k : Nat)).set (k : Nat) (some (vl x))).set ((k : Nat) + 1) none = L') : J O j n0 Q pc L (vl x :: S) n M = J O j n0 Q (pc + 1) L' S n M := by
  rw [J_of hd (fun h => h)]
  refine propext ⟨fun h => ?_, fun h => ⟨_, _, ⟨rfl, x, rfl, hk, hL.symm⟩, h⟩⟩
  obtain ⟨L1, S1, ⟨-, x1, h1, -, rfl⟩, h3⟩ := h
  cases h1
  rw [hL] at h3
  exact h3
theorem J_iinc {O : pO} {j n0 : Nat} {Q : pQ} {pc : Nat} {L : pL} {S : List pv} {n : Nat} {M : pM} {k : Nat} {x c : Int} {L' : pL} (hd : decode (mB j) pc = .ok (.iinc k c, 3)) (hc : r32 c) (hk : L[k]? = some (some (vi x))) (hL : (kil L k).set k (some (vi (w32 (x + c)))) = L') : J O j n0 Q pc L S n M = J O j n0 Q (pc + 3) L' S n M := by
  rw [J_of hd (fun h => h)]
  refine propext ⟨fun h => ?_, fun h => ⟨_, _, ⟨rfl, hc, x, hk, rfl, hL.symm⟩, h⟩⟩
  obtain ⟨L1, S1, ⟨-, -, x1, h1, rfl, rfl⟩, h3⟩ := h
  rw [hk] at h1
  cases h1
  rw [hL] at h3
  exact h3
theorem J_if {O : pO} {j n0 : Nat} {Q : pQ} {pc : Nat} {L : pL} {S : List pv} {n : Nat} {M : pM} {c : jC} {off x : Int} {tgt : Nat} (hd : decode (mB j) pc = .ok (.ifCond c off, 3)) (ht : (pc : Int) + off = (tgt : Nat)) : J O j n0 Q pc L (vi x :: S) n M = ((cnd c x 0 → J O j n0 Q tgt L S n M) ∧ (¬ cnd c x 0 → J O j n0 Q (pc + 3) L S n M)) := by
  rw [J_of hd (fun h => h)]
  refine propext ⟨fun h => ?_, fun h => ⟨rfl, x, S, tgt, rfl, ht, h.1, h.2⟩⟩
  obtain ⟨-, x', S', t, h1, h2, h3, h4⟩ := h
  cases h1
  have : t = tgt := by omega
  subst this
  exact ⟨h3, h4⟩
theorem J_icmp {O : pO} {j n0 : Nat} {Q : pQ} {pc : Nat} {L : pL} {S : List pv} {n : Nat} {M : pM} {c : jC} {off x y : Int} {tgt : Nat} (hd : decode (mB j) pc = .ok (.if_icmp c off, 3)) (ht : (pc : Int) + off = (tgt : Nat)) : J O j n0 Q pc L (vi y :: vi x :: S) n M = ((cnd c x y → J O j n0 Q tgt L S n M) ∧ (¬ cnd c x y → J O j n0 Q (pc + 3) L S n M)) := by
  rw [J_of hd (fun h => h)]
  refine propext ⟨fun h => ?_, fun h => ⟨rfl, x, y, S, tgt, rfl, ht, h.1, h.2⟩⟩
  obtain ⟨-, x', y', S', t, h1, h2, h3, h4⟩ := h
  cases h1
  have : t = tgt := by omega
  subst this
  exact ⟨h3, h4⟩
theorem J_goto {O : pO} {j n0 : Nat} {Q : pQ} {pc : Nat} {L : pL} {S : List pv} {n : Nat} {M : pM} {off : Int} {tgt : Nat} (hd : decode (mB j) pc = .ok (.goto off, 3)) (ht : (pc : Int) + off = (tgt : Nat)) : J O j n0 Q pc L S n M = J O j n0 Q tgt L S n M := by
  rw [J_of hd (fun h => h)]
  refine propext ⟨fun h => ?_, fun h => ⟨rfl, tgt, ht, h⟩⟩
  obtain ⟨-, t, h1, h2⟩ := h
  have : t = tgt := by omega
  subst this
  exact h2
theorem J_tabO {O : pO} {j n0 : Nat} {Q : pQ} {pc : Nat} {L : pL} {S : List pv} {n : Nat} {M : pM} {d lo hi x : Int} {offs : Array Int} {len dt : Nat} (hd : decode (mB j) pc = .ok (.tableswitch d lo hi offs, len)) (ht : (pc : Int) + d = (dt : Nat)) (hx : x < lo ∨ hi < x) (h : J O j n0 Q dt L S n M) : J O j n0 Q pc L (vi x :: S) n M := by
  rw [J_of hd (fun h => h)]
  refine ⟨x, S, rfl, fun t _ ht' => ?_, ⟨dt, ht⟩, fun k h1 h2 => by omega⟩
  have : t = dt := by omega
  subst this
  exact h
theorem J_tabI {O : pO} {j n0 : Nat} {Q : pQ} {pc : Nat} {L : pL} {S : List pv} {n : Nat} {M : pM} {d lo hi x : Int} {offs : Array Int} {len dt tgt k : Nat} {off : Int} (hd : decode (mB j) pc = .ok (.tableswitch d lo hi offs, len)) (ht : (pc : Int) + d = (dt : Nat)) (hx : x = lo + k) (hh : x ≤ hi) (ho : offs[k]? = some off) (h2 : (pc : Int) + off = (tgt : Nat)) (h : J O j n0 Q tgt L S n M) : J O j n0 Q pc L (vi x :: S) n M := by
  rw [J_of hd (fun h => h)]
  refine ⟨x, S, rfl, fun t h1 ht' => by omega, ⟨dt, ht⟩, fun k' h1 h3 => ?_⟩
  have : k' = k := by omega
  subst this
  exact ⟨off, ho, tgt, h2, h⟩
theorem J_look {O : pO} {j n0 : Nat} {Q : pQ} {pc : Nat} {L : pL} {S : List pv} {n : Nat} {M : pM} {d x : Int} {ps : Array (Int × Int)} {len tgt : Nat} (hd : decode (mB j) pc = .ok (.lookupswitch d ps, len)) (hp : (ps.toList.zip (ps.toList.drop 1)).all (fun (a, next) => a.1 < next.1) = true) (ht : (pc : Int) + Op.lookupswitch.offset ps.toList d x = (tgt : Nat)) : J O j n0 Q pc L (vi x :: S) n M = J O j n0 Q tgt L S n M := by
  rw [J_of hd (fun h => h)]
  refine propext ⟨fun h => ?_, fun h => ⟨hp, x, S, rfl, tgt, ht, h⟩⟩
  obtain ⟨-, x', S', h1, t, h2, h3⟩ := h
  cases h1
  have : t = tgt := by omega
  subst this
  exact h3
theorem J_get {O : pO} {j n0 : Nat} {Q : pQ} {pc : Nat} {L : pL} {S : List pv} {n : Nat} {M : pM} {ix a : Nat} {q : Nat × Nat × Nat × Nat × Nat × Nat} (hq : q ∈ fldL) (e : (q.1, q.2.1) = (mO j, ix)) (hd : decode (mB j) pc = .ok (.getfield ix, 3)) : J O j n0 Q pc L (vr (a + 1) :: S) n M = (ob n a = q.2.2.1 ∧ J O j n0 Q (pc + 3) L (tgv (tyA q.2.2.1 q.2.2.2.1) (M a q.2.2.2.1) :: S) n M) := by
  rw [J_of hd (fun ⟨_, x, hx, h1, h2, _⟩ => sf_fl q hq x hx ⟨(fst_e e).trans h1.symm, (snd_e e).trans h2.symm⟩)]
  refine propext ⟨fun h => ?_, fun h => ⟨rfl, q, hq, congrArg Prod.fst e, congrArg Prod.snd e, a, S, rfl, h.1, h.2⟩⟩
  obtain ⟨-, x, hx, h1, h2, a', S', h3, h4, h5⟩ := h
  have : x = q := uq_of fld_u x hx q hq (by rw [show (x.1, x.2.1) = (mO j, ix) from by rw [h1, h2], e])
  subst this
  cases h3
  exact ⟨h4, h5⟩
theorem J_put {O : pO} {j n0 : Nat} {Q : pQ} {pc : Nat} {L : pL} {S : List pv} {n : Nat} {M : pM} {ix a : Nat} {v : pv} {x : Int} {q : Nat × Nat × Nat × Nat × Nat × Nat} (hq : q ∈ fldL) (e : (q.1, q.2.1) = (mO j, ix)) (hf : (cT q.2.2.1 q.2.2.2.1).2.2.2 = false ∨ ((mY j).name = "<init>" ∧ q.2.2.1 = mO j ∧ q.2.2.2.2.2 = 0)) {C : Prop} (hu : ∀ y, utg (tyA q.2.2.1 q.2.2.2.1) v y ↔ (C ∧ y = x)) (hd : decode (mB j) pc = .ok (.putfield ix, 3)) : J O j n0 Q pc L (v :: vr (a + 1) :: S) n M = (ob n a = q.2.2.1 ∧ C ∧ J O j n0 Q (pc + 3) L S n (st M a q.2.2.2.1 x)) := by
  rw [J_of hd (fun h => h)]
  refine propext ⟨fun h => ?_, fun h => ⟨rfl, q, hq, congrArg Prod.fst e, congrArg Prod.snd e, hf, a, v, x, S, rfl, h.1, (hu x).mpr ⟨h.2.1, rfl⟩, h.2.2⟩⟩
  obtain ⟨-, z, hz, h1, h2, -, a', v', x', S', h3, h4, h6, h5⟩ := h
  have : z = q := uq_of fld_u z hz q hq (by rw [show (z.1, z.2.1) = (mO j, ix) from by rw [h1, h2], e])
  subst this
  cases h3
  obtain ⟨hC, rfl⟩ := (hu x').mp h6
  exact ⟨h4, hC, h5⟩
theorem J_gs {O : pO} {j n0 : Nat} {Q : pQ} {pc : Nat} {L : pL} {S : List pv} {n : Nat} {M : pM} {ix : Nat} {q : Nat × Nat × Nat × Nat} (hq : q ∈ gsL) (e : (q.1, q.2.1) = (mO j, ix)) (hd : decode (mB j) pc = .ok (.getstatic ix, 3)) : J O j n0 Q pc L S n M = J O j n0 Q (pc + 3) L (vr (1001 + q.2.2.1) :: S) n M := by
  rw [J_of hd (fun ⟨_, x, hx, h1, h2, _⟩ => gb_gs q hq x hx ⟨(fst_e e).trans h1.symm, (snd_e e).trans h2.symm⟩)]
  refine propext ⟨fun h => ?_, fun h => ⟨rfl, q, hq, congrArg Prod.fst e, congrArg Prod.snd e, h⟩⟩
  obtain ⟨-, x, hx, h1, h2, h5⟩ := h
  have : x = q := uq_of gs_u x hx q hq (by rw [show (x.1, x.2.1) = (mO j, ix) from by rw [h1, h2], e])
  subst this
  exact h5
theorem J_iald {O : pO} {j n0 : Nat} {Q : pQ} {pc : Nat} {L : pL} {S : List pv} {n : Nat} {M : pM} {a : Nat} {x : Int} (hd : decode (mB j) pc = .ok (.iaload, 1)) : J O j n0 Q pc L (vi x :: vr (a + 1) :: S) n M = (0 ≤ x ∧ x < aln M n a 0 ∧ J O j n0 Q (pc + 1) L (vi (M a x.toNat) :: S) n M) := by
  rw [J_of hd (fun h => h)]
  refine propext ⟨fun h => ?_, fun h => ⟨rfl, x, a, S, rfl, h.1, h.2.1, h.2.2⟩⟩
  obtain ⟨-, x', a', S', h1, h2, h3, h4⟩ := h
  cases h1
  exact ⟨h2, h3, h4⟩
theorem J_lald {O : pO} {j n0 : Nat} {Q : pQ} {pc : Nat} {L : pL} {S : List pv} {n : Nat} {M : pM} {a : Nat} {x : Int} (hd : decode (mB j) pc = .ok (.laload, 1)) : J O j n0 Q pc L (vi x :: vr (a + 1) :: S) n M = (0 ≤ x ∧ x < alw n a 1 ∧ J O j n0 Q (pc + 1) L (vl (M a x.toNat) :: S) n M) := by
  rw [J_of hd (fun h => h)]
  refine propext ⟨fun h => ?_, fun h => ⟨rfl, x, a, S, rfl, h.1, h.2.1, h.2.2⟩⟩
  obtain ⟨-, x', a', S', h1, h2, h3, h4⟩ := h
  cases h1
  exact ⟨h2, h3, h4⟩
theorem J_bald {O : pO} {j n0 : Nat} {Q : pQ} {pc : Nat} {L : pL} {S : List pv} {n : Nat} {M : pM} {a : Nat} {x : Int} (ha : a < 1000) (hd : decode (mB j) pc = .ok (.baload, 1)) : J O j n0 Q pc L (vi x :: vr (a + 1) :: S) n M = (0 ≤ x ∧ (x < alw n a 2 ∨ x < alw n a 3) ∧ J O j n0 Q (pc + 1) L (vi (M a x.toNat) :: S) n M) := by
  rw [J_of hd (fun ⟨_, x', i, S', _, h2, _⟩ => by have := Sum.inr.inj (Sum.inr.inj (List.cons.inj (List.cons.inj h2).2).1); omega)]
  refine propext ⟨fun h => ?_, fun h => ⟨rfl, x, a, S, rfl, h.1, h.2.1, h.2.2⟩⟩
  obtain ⟨-, x', a', S', h1, h2, h3, h4⟩ := h
  cases h1
  exact ⟨h2, h3, h4⟩
theorem J_iast {O : pO} {j n0 : Nat} {Q : pQ} {pc : Nat} {L : pL} {S : List pv} {n : Nat} {M : pM} {a : Nat} {x v : Int} (hd : decode (mB j) pc = .ok (.iastore, 1)) : J O j n0 Q pc L (vi v :: vi x :: vr (a + 1) :: S) n M = (0 ≤ x ∧ x < alw n a 0 ∧ J O j n0 Q (pc + 1) L S n (st M a x.toNat v)) := by
  rw [J_of hd (fun h => h)]
  refine propext ⟨fun h => ?_, fun h => ⟨rfl, v, x, a, S, rfl, h.1, h.2.1, h.2.2⟩⟩
  obtain ⟨-, v', x', a', S', h1, h2, h3, h4⟩ := h
  cases h1
  exact ⟨h2, h3, h4⟩
theorem J_last {O : pO} {j n0 : Nat} {Q : pQ} {pc : Nat} {L : pL} {S : List pv} {n : Nat} {M : pM} {a : Nat} {x v : Int} (hd : decode (mB j) pc = .ok (.lastore, 1)) : J O j n0 Q pc L (vl v :: vi x :: vr (a + 1) :: S) n M = (0 ≤ x ∧ x < alw n a 1 ∧ J O j n0 Q (pc + 1) L S n (st M a x.toNat v)) := by
  rw [J_of hd (fun h => h)]
  refine propext ⟨fun h => ?_, fun h => ⟨rfl, v, x, a, S, rfl, h.1, h.2.1, h.2.2⟩⟩
  obtain ⟨-, v', x', a', S', h1, h2, h3, h4⟩ := h
  cases h1
  exact ⟨h2, h3, h4⟩
theorem J_bast {O : pO} {j n0 : Nat} {Q : pQ} {pc : Nat} {L : pL} {S : List pv} {n : Nat} {M : pM} {a : Nat} {x v : Int} (hd : decode (mB j) pc = .ok (.bastore, 1)) : J O j n0 Q pc L (vi v :: vi x :: vr (a + 1) :: S) n M = (0 ≤ x ∧ ((x < alw n a 2 ∧ J O j n0 Q (pc + 1) L S n (st M a x.toNat (w8 v))) ∨ (x < alw n a 3 ∧ (v = 0 ∨ v = 1) ∧ J O j n0 Q (pc + 1) L S n (st M a x.toNat v)))) := by
  rw [J_of hd (fun h => h)]
  refine propext ⟨fun h => ?_, fun h => ⟨rfl, v, x, a, S, rfl, h.1, h.2⟩⟩
  obtain ⟨-, v', x', a', S', h1, h2, h3⟩ := h
  cases h1
  exact ⟨h2, h3⟩
theorem J_alen {O : pO} {j n0 : Nat} {Q : pQ} {pc : Nat} {L : pL} {S : List pv} {n : Nat} {M : pM} {a t : Nat} {len : Int} (hd : decode (mB j) pc = .ok (.arraylength, 1)) (hl : aln M n a t = len) (h0 : 0 ≤ len) (h : J O j n0 Q (pc + 1) L (vi len :: S) n M) : J O j n0 Q pc L (vr (a + 1) :: S) n M := by
  refine J_sx hd ?_
  exact ⟨rfl, a, S, t, rfl, by rw [hl]; exact h0, by rw [hl]; exact h⟩
theorem J_newa {O : pO} {j n0 : Nat} {Q : pQ} {pc : Nat} {L : pL} {S : List pv} {n : Nat} {M : pM} {t : ArrayType} {x : Int} (hd : decode (mB j) pc = .ok (.newarray t, 2)) (ht : t = .int ∨ t = .long ∨ t = .byte ∨ t = .boolean) : J O j n0 Q pc L (vi x :: S) n M = (n < NCELL ∧ n + 1 ≤ n0 + mC j ∧ SH n = .inr (atg t, x.toNat) ∧ 0 ≤ x ∧ x ≤ 1000000 ∧ J O j n0 Q (pc + 2) L (vr (n + 1) :: S) (n + 1) (zr M n)) := by
  rw [J_of hd (fun h => h)]
  refine propext ⟨fun h => ?_, fun h => ⟨rfl, x, S, rfl, h.1, h.2.1, h.2.2.1, ht, h.2.2.2.1, h.2.2.2.2.1, h.2.2.2.2.2⟩⟩
  obtain ⟨-, x', S', h1, h2, h3, h4, -, h5, h6, h7⟩ := h
  cases h1
  exact ⟨h2, h3, h4, h5, h6, h7⟩
theorem J_new {O : pO} {j n0 : Nat} {Q : pQ} {pc : Nat} {L : pL} {S : List pv} {n : Nat} {M : pM} {ix : Nat} {q : Nat × Nat × Nat × Nat × Nat × Nat × Nat} (hq : q ∈ newL) (e : (q.1, q.2.1) = (mO j, ix)) (hd : decode (mB j) pc = .ok (.new ix, 3)) : J O j n0 Q pc L S n M = (n < NCELL ∧ n + 1 ≤ n0 + mC j ∧ SH n = .inl q.2.2.1 ∧ J O j n0 Q (pc + 3) L (vr (n + 1) :: S) (n + 1) (zr M n)) := by
  rw [J_of hd (fun h => h)]
  refine propext ⟨fun h => ?_, fun h => ⟨rfl, q, hq, congrArg Prod.fst e, congrArg Prod.snd e, h.1, h.2.1, h.2.2.1, h.2.2.2⟩⟩
  obtain ⟨-, x, hx, h1, h2, h3, h4, h5, h6⟩ := h
  have : x = q := uq_of new_u x hx q hq (by rw [show (x.1, x.2.1) = (mO j, ix) from by rw [h1, h2], e])
  subst this
  exact ⟨h3, h4, h5, h6⟩
def kI (O : pO) (j n0 : Nat) (Q : pQ) (pc : Nat) (L : pL) (S : List pv) (n : Nat) : pQ := fun r M' => ∃ x, r = some (vi x) ∧ J O j n0 Q pc L (vi x :: S) n M'
def kL (O : pO) (j n0 : Nat) (Q : pQ) (pc : Nat) (L : pL) (S : List pv) (n : Nat) : pQ := fun r M' => ∃ x, r = some (vl x) ∧ J O j n0 Q pc L (vl x :: S) n M'
def kV (O : pO) (j n0 : Nat) (Q : pQ) (pc : Nat) (L : pL) (S : List pv) (n : Nat) : pQ := fun r M' => r = none ∧ J O j n0 Q pc L S n M'
def kR (rt : Option FieldType) (O : pO) (j n0 : Nat) (Q : pQ) (pc : Nat) (L : pL) (S : List pv) (n : Nat) : pQ := fun r M' => ∃ S'', psh rt r S S'' ∧ J O j n0 Q pc L S'' n M'
theorem kR_I {O : pO} {j n0 : Nat} {Q : pQ} {pc : Nat} {L : pL} {S : List pv} {n : Nat} {rt : Option FieldType} (h : rt = some .int ∨ rt = some .boolean ∨ rt = some .char) : kR rt O j n0 Q pc L S n = kI O j n0 Q pc L S n := by
  funext r M'
  refine propext ⟨fun q => ?_, fun q => ?_⟩
  · obtain ⟨S'', h1, h2⟩ := q
    rcases h with rfl | rfl | rfl <;> (obtain ⟨x, e1, rfl⟩ := h1; exact ⟨x, e1, h2⟩)
  · obtain ⟨x, e1, h2⟩ := q
    rcases h with rfl | rfl | rfl <;> exact ⟨_, ⟨x, e1, rfl⟩, h2⟩
theorem kR_L {O : pO} {j n0 : Nat} {Q : pQ} {pc : Nat} {L : pL} {S : List pv} {n : Nat} : kR (some .long) O j n0 Q pc L S n = kL O j n0 Q pc L S n := by
  funext r M'
  refine propext ⟨fun q => ?_, fun q => ?_⟩
  · obtain ⟨S'', ⟨x, e1, rfl⟩, h2⟩ := q; exact ⟨x, e1, h2⟩
  · obtain ⟨x, e1, h2⟩ := q; exact ⟨_, ⟨x, e1, rfl⟩, h2⟩
theorem kR_V {O : pO} {j n0 : Nat} {Q : pQ} {pc : Nat} {L : pL} {S : List pv} {n : Nat} : kR none O j n0 Q pc L S n = kV O j n0 Q pc L S n := by
  funext r M'
  refine propext ⟨fun q => ?_, fun q => ?_⟩
  · obtain ⟨S'', ⟨e1, rfl⟩, h2⟩ := q; exact ⟨e1, h2⟩
  · exact ⟨S, ⟨q.1, rfl⟩, q.2⟩
theorem J_callV {O : pO} {j n0 : Nat} {Q : pQ} {pc : Nat} {L : pL} {S : List pv} {n : Nat} {M : pM} {ix b i : Nat} {As : List pv} {q : Nat × Nat × Nat × Nat × Nat × Nat} (hq : q ∈ calL) (e : (q.1, q.2.1) = (mO j, ix)) (e3 : q.2.2.1 = 0) (ei : q.2.2.2.1 = i) (h14 : mO i ≠ 14) (hc : mC i = 0) (hA : As.length = mA i) (hd : decode (mB j) pc = .ok (.invokevirtual ix, 3)) : J O j n0 Q pc L (As.reverse ++ vr (b + 1) :: S) n M = (ob n b = mO i ∧ stk S ≤ 8 ∧ mo O i (vr (b + 1) :: As) n M (kR (mR i) O j n0 Q (pc + 3) L S n)) := by
  subst ei
  rw [J_of hd (fun ⟨_, x, hx, h1, h2, _, _, _, _, _, _, _, h8, _⟩ => h14 (by rw [← uq_of cal_u x hx q hq (by rw [show (x.1, x.2.1) = (mO j, ix) from by rw [h1, h2], e])]; exact h8))]
  refine propext ⟨fun h => ?_, fun h => ⟨rfl, q, hq, congrArg Prod.fst e, congrArg Prod.snd e, e3, As, b, S, rfl, hA, h.1, h.2.1, hc, h.2.2⟩⟩
  obtain ⟨-, x, hx, h1, h2, -, As', b', S', h4, h5, h6, h7, h8, h9⟩ := h
  have : x = q := uq_of cal_u x hx q hq (by rw [show (x.1, x.2.1) = (mO j, ix) from by rw [h1, h2], e])
  subst this
  have hl : As.reverse.length = As'.reverse.length := by rw [List.length_reverse, List.length_reverse, hA, h5]
  obtain ⟨g1, g2⟩ := List.append_inj h4 hl
  cases g2
  have g1 := List.reverse_inj.mp g1
  subst g1
  exact ⟨h6, h7, h9⟩
theorem J_callS {O : pO} {j n0 : Nat} {Q : pQ} {pc : Nat} {L : pL} {S : List pv} {n : Nat} {M : pM} {ix i : Nat} {As : List pv} {q : Nat × Nat × Nat × Nat × Nat × Nat} (hq : q ∈ calL) (e : (q.1, q.2.1) = (mO j, ix)) (e3 : q.2.2.1 = 1) (ei : q.2.2.2.1 = i) (hm : mth i = 0) (hc : mC i = 0) (hA : As.length = mA i) (hd : decode (mB j) pc = .ok (.invokestatic ix, 3)) : J O j n0 Q pc L (As.reverse ++ S) n M = (stk S ≤ 8 ∧ mo O i As n M (kR (mR i) O j n0 Q (pc + 3) L S n)) := by
  subst ei
  rw [J_of hd (fun h => h)]
  refine propext ⟨fun h => ?_, fun h => ⟨rfl, Or.inl ⟨q, hq, congrArg Prod.fst e, congrArg Prod.snd e, e3, Or.inl ⟨hm, As, S, rfl, hA, h.1, hc, h.2⟩⟩⟩⟩
  obtain ⟨-, ⟨x, hx, h1, h2, -, hh⟩ | ⟨g0, -⟩⟩ := h
  case inr => exact absurd ⟨congrArg Prod.fst e, congrArg Prod.snd e⟩ (g0 q hq)
  have : x = q := uq_of cal_u x hx q hq (by rw [show (x.1, x.2.1) = (mO j, ix) from by rw [h1, h2], e])
  subst this
  rcases hh with ⟨-, As', S', h4, h5, h6, h7, h8⟩ | ⟨m, -⟩ | ⟨m, -⟩ | ⟨m, -⟩
  · have hl : As.reverse.length = As'.reverse.length := by rw [List.length_reverse, List.length_reverse, hA, h5]
    obtain ⟨g1, g2⟩ := List.append_inj h4 hl
    subst g2
    have g1 := List.reverse_inj.mp g1
    subst g1
    exact ⟨h6, h8⟩
  · omega
  · omega
  · omega
theorem J_max {O : pO} {j n0 : Nat} {Q : pQ} {pc : Nat} {L : pL} {S : List pv} {n : Nat} {M : pM} {ix : Nat} {a b : Int} {q : Nat × Nat × Nat × Nat × Nat × Nat} (hq : q ∈ calL) (e : (q.1, q.2.1) = (mO j, ix)) (e3 : q.2.2.1 = 1) (hm : mth q.2.2.2.1 = 1) (hd : decode (mB j) pc = .ok (.invokestatic ix, 3)) : J O j n0 Q pc L (vi b :: vi a :: S) n M = (stk S ≤ 8 ∧ J O j n0 Q (pc + 3) L (vi (if a < b then b else a) :: S) n M) := by
  rw [J_of hd (fun h => h)]
  refine propext ⟨fun h => ?_, fun h => ⟨rfl, Or.inl ⟨q, hq, congrArg Prod.fst e, congrArg Prod.snd e, e3, Or.inr (Or.inl ⟨hm, a, b, S, rfl, h.1, h.2⟩)⟩⟩⟩
  obtain ⟨-, ⟨x, hx, h1, h2, -, hh⟩ | ⟨g0, -⟩⟩ := h
  case inr => exact absurd ⟨congrArg Prod.fst e, congrArg Prod.snd e⟩ (g0 q hq)
  have : x = q := uq_of cal_u x hx q hq (by rw [show (x.1, x.2.1) = (mO j, ix) from by rw [h1, h2], e])
  subst this
  rcases hh with ⟨m, -⟩ | ⟨m, a', b', S', h4, h5, h6⟩ | ⟨m, a', b', S', h4, h5, h6⟩ | ⟨m, a', S', h4, h5, h6⟩ <;> first | omega | (cases h4; exact ⟨h5, h6⟩)
theorem J_min {O : pO} {j n0 : Nat} {Q : pQ} {pc : Nat} {L : pL} {S : List pv} {n : Nat} {M : pM} {ix : Nat} {a b : Int} {q : Nat × Nat × Nat × Nat × Nat × Nat} (hq : q ∈ calL) (e : (q.1, q.2.1) = (mO j, ix)) (e3 : q.2.2.1 = 1) (hm : mth q.2.2.2.1 = 2) (hd : decode (mB j) pc = .ok (.invokestatic ix, 3)) : J O j n0 Q pc L (vi b :: vi a :: S) n M = (stk S ≤ 8 ∧ J O j n0 Q (pc + 3) L (vi (if b < a then b else a) :: S) n M) := by
  rw [J_of hd (fun h => h)]
  refine propext ⟨fun h => ?_, fun h => ⟨rfl, Or.inl ⟨q, hq, congrArg Prod.fst e, congrArg Prod.snd e, e3, Or.inr (Or.inr (Or.inl ⟨hm, a, b, S, rfl, h.1, h.2⟩))⟩⟩⟩
  obtain ⟨-, ⟨x, hx, h1, h2, -, hh⟩ | ⟨g0, -⟩⟩ := h
  case inr => exact absurd ⟨congrArg Prod.fst e, congrArg Prod.snd e⟩ (g0 q hq)
  have : x = q := uq_of cal_u x hx q hq (by rw [show (x.1, x.2.1) = (mO j, ix) from by rw [h1, h2], e])
  subst this
  rcases hh with ⟨m, -⟩ | ⟨m, a', b', S', h4, h5, h6⟩ | ⟨m, a', b', S', h4, h5, h6⟩ | ⟨m, a', S', h4, h5, h6⟩ <;> first | omega | (cases h4; exact ⟨h5, h6⟩)
theorem J_abs {O : pO} {j n0 : Nat} {Q : pQ} {pc : Nat} {L : pL} {S : List pv} {n : Nat} {M : pM} {ix : Nat} {a : Int} {q : Nat × Nat × Nat × Nat × Nat × Nat} (hq : q ∈ calL) (e : (q.1, q.2.1) = (mO j, ix)) (e3 : q.2.2.1 = 1) (hm : mth q.2.2.2.1 = 3) (hd : decode (mB j) pc = .ok (.invokestatic ix, 3)) : J O j n0 Q pc L (vi a :: S) n M = (stk S ≤ 8 ∧ J O j n0 Q (pc + 3) L (vi (if 0 ≤ a then a else w32 (0 - a)) :: S) n M) := by
  rw [J_of hd (fun h => h)]
  refine propext ⟨fun h => ?_, fun h => ⟨rfl, Or.inl ⟨q, hq, congrArg Prod.fst e, congrArg Prod.snd e, e3, Or.inr (Or.inr (Or.inr ⟨hm, a, S, rfl, h.1, h.2⟩))⟩⟩⟩
  obtain ⟨-, ⟨x, hx, h1, h2, -, hh⟩ | ⟨g0, -⟩⟩ := h
  case inr => exact absurd ⟨congrArg Prod.fst e, congrArg Prod.snd e⟩ (g0 q hq)
  have : x = q := uq_of cal_u x hx q hq (by rw [show (x.1, x.2.1) = (mO j, ix) from by rw [h1, h2], e])
  subst this
  rcases hh with ⟨m, -⟩ | ⟨m, a', b', S', h4, h5, h6⟩ | ⟨m, a', b', S', h4, h5, h6⟩ | ⟨m, a', S', h4, h5, h6⟩ <;> first | omega | (cases h4; exact ⟨h5, h6⟩)
theorem J_obj {O : pO} {j n0 : Nat} {Q : pQ} {pc : Nat} {L : pL} {S : List pv} {n : Nat} {M : pM} {ix b : Nat} {q : Nat × Nat × Nat} (hq : q ∈ obiL) (e : (q.1, q.2.1) = (mO j, ix)) (hd : decode (mB j) pc = .ok (.invokespecial ix, 3)) (hk : stk S ≤ 8) (h : J O j n0 Q (pc + 3) L S n M) : J O j n0 Q pc L (vr (b + 1) :: S) n M := by
  rw [J_of hd (fun h => h)]
  exact ⟨rfl, Or.inl ⟨q, hq, (Prod.mk.inj e).1, (Prod.mk.inj e).2, b, S, rfl, hk, h⟩⟩
theorem J_callI {O : pO} {j n0 : Nat} {Q : pQ} {pc : Nat} {L : pL} {S : List pv} {n : Nat} {M : pM} {ix b i : Nat} {As : List pv} {q : Nat × Nat × Nat × Nat × Nat × Nat} (hq : q ∈ calL) (e : (q.1, q.2.1) = (mO j, ix)) (e3 : q.2.2.1 = 2) (ei : q.2.2.2.1 = i) (hA : As.length = mA i) (hmr : mR i = none) (hd : decode (mB j) pc = .ok (.invokespecial ix, 3)) (h1 : ob n b = mO i) (h2 : stk S ≤ 8) (h3 : n + mC i ≤ n0 + mC j) (h4 : mo O i (vr (b + 1) :: As) n M (kV O j n0 Q (pc + 3) L S (n + mC i))) : J O j n0 Q pc L (As.reverse ++ vr (b + 1) :: S) n M := by
  subst ei
  rw [J_of hd (fun h => h)]
  exact ⟨rfl, Or.inr ⟨q, hq, congrArg Prod.fst e, congrArg Prod.snd e, e3, As, b, S, rfl, hA, h1, h2, h3, hmr, h4⟩⟩
theorem J_iret {O : pO} {j n0 : Nat} {Q : pQ} {pc : Nat} {L : pL} {n : Nat} {M : pM} {x : Int} (hd : decode (mB j) pc = .ok (.ireturn, 1)) : J O j n0 Q pc L [vi x] n M = (n = n0 + mC j ∧ rok (mR j) x ∧ Q (some (vi x)) M) := by
  rw [J_of hd (fun h => h)]
  refine propext ⟨fun h => ?_, fun h => ⟨rfl, h.1, x, rfl, h.2.1, h.2.2⟩⟩
  obtain ⟨-, h1, x', h2, h3, h4⟩ := h
  cases h2
  exact ⟨h1, h3, h4⟩
theorem J_lret {O : pO} {j n0 : Nat} {Q : pQ} {pc : Nat} {L : pL} {n : Nat} {M : pM} {x : Int} (hr : mR j = some .long) (hd : decode (mB j) pc = .ok (.lreturn, 1)) : J O j n0 Q pc L [vl x] n M = (n = n0 + mC j ∧ Q (some (vl x)) M) := by
  rw [J_of hd (fun h => h)]
  refine propext ⟨fun h => ?_, fun h => ⟨rfl, h.1, hr, x, rfl, h.2⟩⟩
  obtain ⟨-, h1, -, x', h2, h4⟩ := h
  cases h2
  exact ⟨h1, h4⟩
theorem J_vret {O : pO} {j n0 : Nat} {Q : pQ} {pc : Nat} {L : pL} {n : Nat} {M : pM} (hr : mR j = none) (hd : decode (mB j) pc = .ok (.return_, 1)) : J O j n0 Q pc L [] n M = (n = n0 + mC j ∧ Q none M) := by
  rw [J_of hd (fun h => h)]
  refine propext ⟨fun h => ?_, fun h => ⟨rfl, h.1, hr, rfl, h.2⟩⟩
  obtain ⟨-, h1, -, -, h4⟩ := h
  exact ⟨h1, h4⟩
theorem J_acp {O : pO} {j n0 : Nat} {Q : pQ} {pc : Nat} {L : pL} {S : List pv} {n : Nat} {M : pM} {ix a b : Nat} {x y k : Int} {q : Nat × Nat × Nat} (hq : q ∈ acpL) (e : (q.1, q.2.1) = (mO j, ix)) (hn : ∀ q ∈ calL, ¬ (q.1 = mO j ∧ q.2.1 = ix)) (hd : decode (mB j) pc = .ok (.invokestatic ix, 3)) (hk : stk S ≤ 8) (h0 : 0 ≤ x) (h1 : 0 ≤ y) (h2 : 0 ≤ k) (h3 : x + k ≤ alw n a 0) (h4 : y + k ≤ alw n b 0) (h : J O j n0 Q (pc + 3) L S n (cpy M a b x.toNat y.toNat k.toNat)) : J O j n0 Q pc L (vi k :: vi y :: vr (b + 1) :: vi x :: vr (a + 1) :: S) n M := by
  rw [J_of hd (fun h => h)]
  exact ⟨rfl, Or.inr ⟨hn, q, hq, (Prod.mk.inj e).1, (Prod.mk.inj e).2, a, b, x, y, k, S, rfl, hk, h0, h1, h2, h3, h4, h⟩⟩
end
section
theorem utz {x y : Int} : (vi x = vi y ∧ (y = 0 ∨ y = 1)) ↔ ((x = 0 ∨ x = 1) ∧ y = x) := by
  refine ⟨fun h => ?_, fun h => ?_⟩
  · obtain ⟨h1, h2⟩ := h; cases h1; exact ⟨h2, rfl⟩
  · obtain ⟨h1, rfl⟩ := h; exact ⟨rfl, h1⟩
theorem fe_0 : (7, 9, 7, 0, 225, 0) ∈ fldL := by decide +kernel
theorem g_0 {O : pO} {j n0 : Nat} {Q : pQ} {pc : Nat} {L : pL} {S : List pv} {n : Nat} {M : pM} {a : Nat} (hm : mO j = 7) (hd : decode (mB j) pc = .ok (.getfield 9, 3)) : J O j n0 Q pc L (vr (a + 1) :: S) n M = (ob n a = 7 ∧ J O j n0 Q (pc + 3) L (vr (M a 0).toNat :: S) n M) := J_get fe_0 (by rw [hm]) hd
theorem p_0 {O : pO} {j n0 : Nat} {Q : pQ} {pc : Nat} {L : pL} {S : List pv} {n : Nat} {M : pM} {a b : Nat} (hm : mO j = 7) (hi : (mY j).name = "<init>") (hd : decode (mB j) pc = .ok (.putfield 9, 3)) : J O j n0 Q pc L (vr b :: vr (a + 1) :: S) n M = (ob n a = 7 ∧ J O j n0 Q (pc + 3) L S n (st M a 0 (b : Int))) := (J_put (C := True) (x := (b : Int)) fe_0 (by rw [hm]) (Or.inr ⟨hi, hm.symm, rfl⟩) (fun y => by show (∃ k : Nat, vr b = vr k ∧ y = (k : Int)) ↔ _; refine ⟨fun h => ?_, fun h => ⟨b, rfl, h.2⟩⟩; obtain ⟨k, h1, h2⟩ := h; cases h1; exact ⟨trivial, h2⟩) hd).trans (by simp only [true_and])
theorem fe_1 : (7, 21, 7, 1, 226, 0) ∈ fldL := by decide +kernel
theorem g_1 {O : pO} {j n0 : Nat} {Q : pQ} {pc : Nat} {L : pL} {S : List pv} {n : Nat} {M : pM} {a : Nat} (hm : mO j = 7) (hd : decode (mB j) pc = .ok (.getfield 21, 3)) : J O j n0 Q pc L (vr (a + 1) :: S) n M = (ob n a = 7 ∧ J O j n0 Q (pc + 3) L (vi (M a 1) :: S) n M) := J_get fe_1 (by rw [hm]) hd
theorem p_1 {O : pO} {j n0 : Nat} {Q : pQ} {pc : Nat} {L : pL} {S : List pv} {n : Nat} {M : pM} {a : Nat} {x : Int} (hm : mO j = 7) (hd : decode (mB j) pc = .ok (.putfield 21, 3)) : J O j n0 Q pc L (vi x :: vr (a + 1) :: S) n M = (ob n a = 7 ∧ J O j n0 Q (pc + 3) L S n (st M a 1 x)) := (J_put (C := True) (x := x) fe_1 (by rw [hm]) (Or.inl rfl) (fun y => by show (vi x = vi y) ↔ _; simp [eq_comm]) hd).trans (by simp only [true_and])
theorem fe_2 : (7, 25, 7, 2, 227, 0) ∈ fldL := by decide +kernel
theorem g_2 {O : pO} {j n0 : Nat} {Q : pQ} {pc : Nat} {L : pL} {S : List pv} {n : Nat} {M : pM} {a : Nat} (hm : mO j = 7) (hd : decode (mB j) pc = .ok (.getfield 25, 3)) : J O j n0 Q pc L (vr (a + 1) :: S) n M = (ob n a = 7 ∧ J O j n0 Q (pc + 3) L (vi (M a 2) :: S) n M) := J_get fe_2 (by rw [hm]) hd
theorem p_2 {O : pO} {j n0 : Nat} {Q : pQ} {pc : Nat} {L : pL} {S : List pv} {n : Nat} {M : pM} {a : Nat} {x : Int} (hm : mO j = 7) (hd : decode (mB j) pc = .ok (.putfield 25, 3)) : J O j n0 Q pc L (vi x :: vr (a + 1) :: S) n M = (ob n a = 7 ∧ J O j n0 Q (pc + 3) L S n (st M a 2 x)) := (J_put (C := True) (x := x) fe_2 (by rw [hm]) (Or.inl rfl) (fun y => by show (vi x = vi y) ↔ _; simp [eq_comm]) hd).trans (by simp only [true_and])
theorem fe_3 : (5, 30, 7, 3, 228, 1) ∈ fldL := by decide +kernel
theorem g_3 {O : pO} {j n0 : Nat} {Q : pQ} {pc : Nat} {L : pL} {S : List pv} {n : Nat} {M : pM} {a : Nat} (hm : mO j = 5) (hd : decode (mB j) pc = .ok (.getfield 30, 3)) : J O j n0 Q pc L (vr (a + 1) :: S) n M = (ob n a = 7 ∧ J O j n0 Q (pc + 3) L (vi (M a 3) :: S) n M) := J_get fe_3 (by rw [hm]) hd
theorem p_3 {O : pO} {j n0 : Nat} {Q : pQ} {pc : Nat} {L : pL} {S : List pv} {n : Nat} {M : pM} {a : Nat} {x : Int} (hm : mO j = 5) (hd : decode (mB j) pc = .ok (.putfield 30, 3)) : J O j n0 Q pc L (vi x :: vr (a + 1) :: S) n M = (ob n a = 7 ∧ J O j n0 Q (pc + 3) L S n (st M a 3 x)) := (J_put (C := True) (x := x) fe_3 (by rw [hm]) (Or.inl rfl) (fun y => by show (vi x = vi y) ↔ _; simp [eq_comm]) hd).trans (by simp only [true_and])
theorem fe_4 : (3, 49, 7, 3, 229, 1) ∈ fldL := by decide +kernel
theorem g_4 {O : pO} {j n0 : Nat} {Q : pQ} {pc : Nat} {L : pL} {S : List pv} {n : Nat} {M : pM} {a : Nat} (hm : mO j = 3) (hd : decode (mB j) pc = .ok (.getfield 49, 3)) : J O j n0 Q pc L (vr (a + 1) :: S) n M = (ob n a = 7 ∧ J O j n0 Q (pc + 3) L (vi (M a 3) :: S) n M) := J_get fe_4 (by rw [hm]) hd
theorem p_4 {O : pO} {j n0 : Nat} {Q : pQ} {pc : Nat} {L : pL} {S : List pv} {n : Nat} {M : pM} {a : Nat} {x : Int} (hm : mO j = 3) (hd : decode (mB j) pc = .ok (.putfield 49, 3)) : J O j n0 Q pc L (vi x :: vr (a + 1) :: S) n M = (ob n a = 7 ∧ J O j n0 Q (pc + 3) L S n (st M a 3 x)) := (J_put (C := True) (x := x) fe_4 (by rw [hm]) (Or.inl rfl) (fun y => by show (vi x = vi y) ↔ _; simp [eq_comm]) hd).trans (by simp only [true_and])
theorem fe_5 : (7, 50, 7, 3, 230, 0) ∈ fldL := by decide +kernel
theorem g_5 {O : pO} {j n0 : Nat} {Q : pQ} {pc : Nat} {L : pL} {S : List pv} {n : Nat} {M : pM} {a : Nat} (hm : mO j = 7) (hd : decode (mB j) pc = .ok (.getfield 50, 3)) : J O j n0 Q pc L (vr (a + 1) :: S) n M = (ob n a = 7 ∧ J O j n0 Q (pc + 3) L (vi (M a 3) :: S) n M) := J_get fe_5 (by rw [hm]) hd
theorem p_5 {O : pO} {j n0 : Nat} {Q : pQ} {pc : Nat} {L : pL} {S : List pv} {n : Nat} {M : pM} {a : Nat} {x : Int} (hm : mO j = 7) (hd : decode (mB j) pc = .ok (.putfield 50, 3)) : J O j n0 Q pc L (vi x :: vr (a + 1) :: S) n M = (ob n a = 7 ∧ J O j n0 Q (pc + 3) L S n (st M a 3 x)) := (J_put (C := True) (x := x) fe_5 (by rw [hm]) (Or.inl rfl) (fun y => by show (vi x = vi y) ↔ _; simp [eq_comm]) hd).trans (by simp only [true_and])
theorem fe_6 : (7, 34, 7, 4, 231, 0) ∈ fldL := by decide +kernel
theorem g_6 {O : pO} {j n0 : Nat} {Q : pQ} {pc : Nat} {L : pL} {S : List pv} {n : Nat} {M : pM} {a : Nat} (hm : mO j = 7) (hd : decode (mB j) pc = .ok (.getfield 34, 3)) : J O j n0 Q pc L (vr (a + 1) :: S) n M = (ob n a = 7 ∧ J O j n0 Q (pc + 3) L (vi (M a 4) :: S) n M) := J_get fe_6 (by rw [hm]) hd
theorem p_6 {O : pO} {j n0 : Nat} {Q : pQ} {pc : Nat} {L : pL} {S : List pv} {n : Nat} {M : pM} {a : Nat} {x : Int} (hm : mO j = 7) (hd : decode (mB j) pc = .ok (.putfield 34, 3)) : J O j n0 Q pc L (vi x :: vr (a + 1) :: S) n M = (ob n a = 7 ∧ J O j n0 Q (pc + 3) L S n (st M a 4 x)) := (J_put (C := True) (x := x) fe_6 (by rw [hm]) (Or.inl rfl) (fun y => by show (vi x = vi y) ↔ _; simp [eq_comm]) hd).trans (by simp only [true_and])
theorem fe_7 : (5, 34, 7, 5, 232, 1) ∈ fldL := by decide +kernel
theorem g_7 {O : pO} {j n0 : Nat} {Q : pQ} {pc : Nat} {L : pL} {S : List pv} {n : Nat} {M : pM} {a : Nat} (hm : mO j = 5) (hd : decode (mB j) pc = .ok (.getfield 34, 3)) : J O j n0 Q pc L (vr (a + 1) :: S) n M = (ob n a = 7 ∧ J O j n0 Q (pc + 3) L (vi (M a 5) :: S) n M) := J_get fe_7 (by rw [hm]) hd
theorem p_7 {O : pO} {j n0 : Nat} {Q : pQ} {pc : Nat} {L : pL} {S : List pv} {n : Nat} {M : pM} {a : Nat} {x : Int} (hm : mO j = 5) (hd : decode (mB j) pc = .ok (.putfield 34, 3)) : J O j n0 Q pc L (vi x :: vr (a + 1) :: S) n M = (ob n a = 7 ∧ J O j n0 Q (pc + 3) L S n (st M a 5 x)) := (J_put (C := True) (x := x) fe_7 (by rw [hm]) (Or.inl rfl) (fun y => by show (vi x = vi y) ↔ _; simp [eq_comm]) hd).trans (by simp only [true_and])
theorem fe_8 : (7, 43, 7, 5, 233, 0) ∈ fldL := by decide +kernel
theorem g_8 {O : pO} {j n0 : Nat} {Q : pQ} {pc : Nat} {L : pL} {S : List pv} {n : Nat} {M : pM} {a : Nat} (hm : mO j = 7) (hd : decode (mB j) pc = .ok (.getfield 43, 3)) : J O j n0 Q pc L (vr (a + 1) :: S) n M = (ob n a = 7 ∧ J O j n0 Q (pc + 3) L (vi (M a 5) :: S) n M) := J_get fe_8 (by rw [hm]) hd
theorem p_8 {O : pO} {j n0 : Nat} {Q : pQ} {pc : Nat} {L : pL} {S : List pv} {n : Nat} {M : pM} {a : Nat} {x : Int} (hm : mO j = 7) (hd : decode (mB j) pc = .ok (.putfield 43, 3)) : J O j n0 Q pc L (vi x :: vr (a + 1) :: S) n M = (ob n a = 7 ∧ J O j n0 Q (pc + 3) L S n (st M a 5 x)) := (J_put (C := True) (x := x) fe_8 (by rw [hm]) (Or.inl rfl) (fun y => by show (vi x = vi y) ↔ _; simp [eq_comm]) hd).trans (by simp only [true_and])
theorem fe_9 : (3, 79, 7, 5, 234, 1) ∈ fldL := by decide +kernel
theorem g_9 {O : pO} {j n0 : Nat} {Q : pQ} {pc : Nat} {L : pL} {S : List pv} {n : Nat} {M : pM} {a : Nat} (hm : mO j = 3) (hd : decode (mB j) pc = .ok (.getfield 79, 3)) : J O j n0 Q pc L (vr (a + 1) :: S) n M = (ob n a = 7 ∧ J O j n0 Q (pc + 3) L (vi (M a 5) :: S) n M) := J_get fe_9 (by rw [hm]) hd
theorem p_9 {O : pO} {j n0 : Nat} {Q : pQ} {pc : Nat} {L : pL} {S : List pv} {n : Nat} {M : pM} {a : Nat} {x : Int} (hm : mO j = 3) (hd : decode (mB j) pc = .ok (.putfield 79, 3)) : J O j n0 Q pc L (vi x :: vr (a + 1) :: S) n M = (ob n a = 7 ∧ J O j n0 Q (pc + 3) L S n (st M a 5 x)) := (J_put (C := True) (x := x) fe_9 (by rw [hm]) (Or.inl rfl) (fun y => by show (vi x = vi y) ↔ _; simp [eq_comm]) hd).trans (by simp only [true_and])
theorem fe_10 : (7, 40, 7, 6, 235, 0) ∈ fldL := by decide +kernel
theorem g_10 {O : pO} {j n0 : Nat} {Q : pQ} {pc : Nat} {L : pL} {S : List pv} {n : Nat} {M : pM} {a : Nat} (hm : mO j = 7) (hd : decode (mB j) pc = .ok (.getfield 40, 3)) : J O j n0 Q pc L (vr (a + 1) :: S) n M = (ob n a = 7 ∧ J O j n0 Q (pc + 3) L (vi (M a 6) :: S) n M) := J_get fe_10 (by rw [hm]) hd
theorem p_10 {O : pO} {j n0 : Nat} {Q : pQ} {pc : Nat} {L : pL} {S : List pv} {n : Nat} {M : pM} {a : Nat} {x : Int} (hm : mO j = 7) (hd : decode (mB j) pc = .ok (.putfield 40, 3)) : J O j n0 Q pc L (vi x :: vr (a + 1) :: S) n M = (ob n a = 7 ∧ J O j n0 Q (pc + 3) L S n (st M a 6 x)) := (J_put (C := True) (x := x) fe_10 (by rw [hm]) (Or.inl rfl) (fun y => by show (vi x = vi y) ↔ _; simp [eq_comm]) hd).trans (by simp only [true_and])
theorem fe_11 : (7, 28, 7, 7, 236, 0) ∈ fldL := by decide +kernel
theorem g_11 {O : pO} {j n0 : Nat} {Q : pQ} {pc : Nat} {L : pL} {S : List pv} {n : Nat} {M : pM} {a : Nat} (hm : mO j = 7) (hd : decode (mB j) pc = .ok (.getfield 28, 3)) : J O j n0 Q pc L (vr (a + 1) :: S) n M = (ob n a = 7 ∧ J O j n0 Q (pc + 3) L (vi (M a 7) :: S) n M) := J_get fe_11 (by rw [hm]) hd
theorem p_11 {O : pO} {j n0 : Nat} {Q : pQ} {pc : Nat} {L : pL} {S : List pv} {n : Nat} {M : pM} {a : Nat} {x : Int} (hm : mO j = 7) (hd : decode (mB j) pc = .ok (.putfield 28, 3)) : J O j n0 Q pc L (vi x :: vr (a + 1) :: S) n M = (ob n a = 7 ∧ J O j n0 Q (pc + 3) L S n (st M a 7 x)) := (J_put (C := True) (x := x) fe_11 (by rw [hm]) (Or.inl rfl) (fun y => by show (vi x = vi y) ↔ _; simp [eq_comm]) hd).trans (by simp only [true_and])
theorem fe_12 : (11, 321, 7, 7, 237, 1) ∈ fldL := by decide +kernel
theorem g_12 {O : pO} {j n0 : Nat} {Q : pQ} {pc : Nat} {L : pL} {S : List pv} {n : Nat} {M : pM} {a : Nat} (hm : mO j = 11) (hd : decode (mB j) pc = .ok (.getfield 321, 3)) : J O j n0 Q pc L (vr (a + 1) :: S) n M = (ob n a = 7 ∧ J O j n0 Q (pc + 3) L (vi (M a 7) :: S) n M) := J_get fe_12 (by rw [hm]) hd
theorem p_12 {O : pO} {j n0 : Nat} {Q : pQ} {pc : Nat} {L : pL} {S : List pv} {n : Nat} {M : pM} {a : Nat} {x : Int} (hm : mO j = 11) (hd : decode (mB j) pc = .ok (.putfield 321, 3)) : J O j n0 Q pc L (vi x :: vr (a + 1) :: S) n M = (ob n a = 7 ∧ J O j n0 Q (pc + 3) L S n (st M a 7 x)) := (J_put (C := True) (x := x) fe_12 (by rw [hm]) (Or.inl rfl) (fun y => by show (vi x = vi y) ↔ _; simp [eq_comm]) hd).trans (by simp only [true_and])
theorem fe_13 : (7, 31, 7, 8, 238, 0) ∈ fldL := by decide +kernel
theorem g_13 {O : pO} {j n0 : Nat} {Q : pQ} {pc : Nat} {L : pL} {S : List pv} {n : Nat} {M : pM} {a : Nat} (hm : mO j = 7) (hd : decode (mB j) pc = .ok (.getfield 31, 3)) : J O j n0 Q pc L (vr (a + 1) :: S) n M = (ob n a = 7 ∧ J O j n0 Q (pc + 3) L (vi (M a 8) :: S) n M) := J_get fe_13 (by rw [hm]) hd
theorem p_13 {O : pO} {j n0 : Nat} {Q : pQ} {pc : Nat} {L : pL} {S : List pv} {n : Nat} {M : pM} {a : Nat} {x : Int} (hm : mO j = 7) (hd : decode (mB j) pc = .ok (.putfield 31, 3)) : J O j n0 Q pc L (vi x :: vr (a + 1) :: S) n M = (ob n a = 7 ∧ J O j n0 Q (pc + 3) L S n (st M a 8 x)) := (J_put (C := True) (x := x) fe_13 (by rw [hm]) (Or.inl rfl) (fun y => by show (vi x = vi y) ↔ _; simp [eq_comm]) hd).trans (by simp only [true_and])
theorem fe_14 : (11, 324, 7, 8, 239, 1) ∈ fldL := by decide +kernel
theorem g_14 {O : pO} {j n0 : Nat} {Q : pQ} {pc : Nat} {L : pL} {S : List pv} {n : Nat} {M : pM} {a : Nat} (hm : mO j = 11) (hd : decode (mB j) pc = .ok (.getfield 324, 3)) : J O j n0 Q pc L (vr (a + 1) :: S) n M = (ob n a = 7 ∧ J O j n0 Q (pc + 3) L (vi (M a 8) :: S) n M) := J_get fe_14 (by rw [hm]) hd
theorem p_14 {O : pO} {j n0 : Nat} {Q : pQ} {pc : Nat} {L : pL} {S : List pv} {n : Nat} {M : pM} {a : Nat} {x : Int} (hm : mO j = 11) (hd : decode (mB j) pc = .ok (.putfield 324, 3)) : J O j n0 Q pc L (vi x :: vr (a + 1) :: S) n M = (ob n a = 7 ∧ J O j n0 Q (pc + 3) L S n (st M a 8 x)) := (J_put (C := True) (x := x) fe_14 (by rw [hm]) (Or.inl rfl) (fun y => by show (vi x = vi y) ↔ _; simp [eq_comm]) hd).trans (by simp only [true_and])
theorem fe_15 : (4, 9, 4, 0, 269, 0) ∈ fldL := by decide +kernel
theorem g_15 {O : pO} {j n0 : Nat} {Q : pQ} {pc : Nat} {L : pL} {S : List pv} {n : Nat} {M : pM} {a : Nat} (hm : mO j = 4) (hd : decode (mB j) pc = .ok (.getfield 9, 3)) : J O j n0 Q pc L (vr (a + 1) :: S) n M = (ob n a = 4 ∧ J O j n0 Q (pc + 3) L (vr (M a 0).toNat :: S) n M) := J_get fe_15 (by rw [hm]) hd
theorem p_15 {O : pO} {j n0 : Nat} {Q : pQ} {pc : Nat} {L : pL} {S : List pv} {n : Nat} {M : pM} {a b : Nat} (hm : mO j = 4) (hi : (mY j).name = "<init>") (hd : decode (mB j) pc = .ok (.putfield 9, 3)) : J O j n0 Q pc L (vr b :: vr (a + 1) :: S) n M = (ob n a = 4 ∧ J O j n0 Q (pc + 3) L S n (st M a 0 (b : Int))) := (J_put (C := True) (x := (b : Int)) fe_15 (by rw [hm]) (Or.inr ⟨hi, hm.symm, rfl⟩) (fun y => by show (∃ k : Nat, vr b = vr k ∧ y = (k : Int)) ↔ _; refine ⟨fun h => ?_, fun h => ⟨b, rfl, h.2⟩⟩; obtain ⟨k, h1, h2⟩ := h; cases h1; exact ⟨trivial, h2⟩) hd).trans (by simp only [true_and])
theorem fe_16 : (5, 94, 4, 0, 270, 1) ∈ fldL := by decide +kernel
theorem g_16 {O : pO} {j n0 : Nat} {Q : pQ} {pc : Nat} {L : pL} {S : List pv} {n : Nat} {M : pM} {a : Nat} (hm : mO j = 5) (hd : decode (mB j) pc = .ok (.getfield 94, 3)) : J O j n0 Q pc L (vr (a + 1) :: S) n M = (ob n a = 4 ∧ J O j n0 Q (pc + 3) L (vr (M a 0).toNat :: S) n M) := J_get fe_16 (by rw [hm]) hd
theorem fe_17 : (4, 43, 4, 1, 271, 0) ∈ fldL := by decide +kernel
theorem g_17 {O : pO} {j n0 : Nat} {Q : pQ} {pc : Nat} {L : pL} {S : List pv} {n : Nat} {M : pM} {a : Nat} (hm : mO j = 4) (hd : decode (mB j) pc = .ok (.getfield 43, 3)) : J O j n0 Q pc L (vr (a + 1) :: S) n M = (ob n a = 4 ∧ J O j n0 Q (pc + 3) L (vi (M a 1) :: S) n M) := J_get fe_17 (by rw [hm]) hd
theorem p_17 {O : pO} {j n0 : Nat} {Q : pQ} {pc : Nat} {L : pL} {S : List pv} {n : Nat} {M : pM} {a : Nat} {x : Int} (hm : mO j = 4) (hd : decode (mB j) pc = .ok (.putfield 43, 3)) : J O j n0 Q pc L (vi x :: vr (a + 1) :: S) n M = (ob n a = 4 ∧ J O j n0 Q (pc + 3) L S n (st M a 1 x)) := (J_put (C := True) (x := x) fe_17 (by rw [hm]) (Or.inl rfl) (fun y => by show (vi x = vi y) ↔ _; simp [eq_comm]) hd).trans (by simp only [true_and])
theorem fe_18 : (5, 80, 4, 1, 272, 1) ∈ fldL := by decide +kernel
theorem g_18 {O : pO} {j n0 : Nat} {Q : pQ} {pc : Nat} {L : pL} {S : List pv} {n : Nat} {M : pM} {a : Nat} (hm : mO j = 5) (hd : decode (mB j) pc = .ok (.getfield 80, 3)) : J O j n0 Q pc L (vr (a + 1) :: S) n M = (ob n a = 4 ∧ J O j n0 Q (pc + 3) L (vi (M a 1) :: S) n M) := J_get fe_18 (by rw [hm]) hd
theorem p_18 {O : pO} {j n0 : Nat} {Q : pQ} {pc : Nat} {L : pL} {S : List pv} {n : Nat} {M : pM} {a : Nat} {x : Int} (hm : mO j = 5) (hd : decode (mB j) pc = .ok (.putfield 80, 3)) : J O j n0 Q pc L (vi x :: vr (a + 1) :: S) n M = (ob n a = 4 ∧ J O j n0 Q (pc + 3) L S n (st M a 1 x)) := (J_put (C := True) (x := x) fe_18 (by rw [hm]) (Or.inl rfl) (fun y => by show (vi x = vi y) ↔ _; simp [eq_comm]) hd).trans (by simp only [true_and])
theorem fe_19 : (4, 15, 4, 2, 273, 0) ∈ fldL := by decide +kernel
theorem g_19 {O : pO} {j n0 : Nat} {Q : pQ} {pc : Nat} {L : pL} {S : List pv} {n : Nat} {M : pM} {a : Nat} (hm : mO j = 4) (hd : decode (mB j) pc = .ok (.getfield 15, 3)) : J O j n0 Q pc L (vr (a + 1) :: S) n M = (ob n a = 4 ∧ J O j n0 Q (pc + 3) L (vr (M a 2).toNat :: S) n M) := J_get fe_19 (by rw [hm]) hd
theorem p_19 {O : pO} {j n0 : Nat} {Q : pQ} {pc : Nat} {L : pL} {S : List pv} {n : Nat} {M : pM} {a b : Nat} (hm : mO j = 4) (hi : (mY j).name = "<init>") (hd : decode (mB j) pc = .ok (.putfield 15, 3)) : J O j n0 Q pc L (vr b :: vr (a + 1) :: S) n M = (ob n a = 4 ∧ J O j n0 Q (pc + 3) L S n (st M a 2 (b : Int))) := (J_put (C := True) (x := (b : Int)) fe_19 (by rw [hm]) (Or.inr ⟨hi, hm.symm, rfl⟩) (fun y => by show (∃ k : Nat, vr b = vr k ∧ y = (k : Int)) ↔ _; refine ⟨fun h => ?_, fun h => ⟨b, rfl, h.2⟩⟩; obtain ⟨k, h1, h2⟩ := h; cases h1; exact ⟨trivial, h2⟩) hd).trans (by simp only [true_and])
theorem fe_20 : (5, 101, 4, 2, 274, 1) ∈ fldL := by decide +kernel
theorem g_20 {O : pO} {j n0 : Nat} {Q : pQ} {pc : Nat} {L : pL} {S : List pv} {n : Nat} {M : pM} {a : Nat} (hm : mO j = 5) (hd : decode (mB j) pc = .ok (.getfield 101, 3)) : J O j n0 Q pc L (vr (a + 1) :: S) n M = (ob n a = 4 ∧ J O j n0 Q (pc + 3) L (vr (M a 2).toNat :: S) n M) := J_get fe_20 (by rw [hm]) hd
theorem fe_21 : (4, 47, 4, 3, 275, 0) ∈ fldL := by decide +kernel
theorem g_21 {O : pO} {j n0 : Nat} {Q : pQ} {pc : Nat} {L : pL} {S : List pv} {n : Nat} {M : pM} {a : Nat} (hm : mO j = 4) (hd : decode (mB j) pc = .ok (.getfield 47, 3)) : J O j n0 Q pc L (vr (a + 1) :: S) n M = (ob n a = 4 ∧ J O j n0 Q (pc + 3) L (vi (M a 3) :: S) n M) := J_get fe_21 (by rw [hm]) hd
theorem p_21 {O : pO} {j n0 : Nat} {Q : pQ} {pc : Nat} {L : pL} {S : List pv} {n : Nat} {M : pM} {a : Nat} {x : Int} (hm : mO j = 4) (hd : decode (mB j) pc = .ok (.putfield 47, 3)) : J O j n0 Q pc L (vi x :: vr (a + 1) :: S) n M = (ob n a = 4 ∧ J O j n0 Q (pc + 3) L S n (st M a 3 x)) := (J_put (C := True) (x := x) fe_21 (by rw [hm]) (Or.inl rfl) (fun y => by show (vi x = vi y) ↔ _; simp [eq_comm]) hd).trans (by simp only [true_and])
theorem fe_22 : (5, 98, 4, 3, 276, 1) ∈ fldL := by decide +kernel
theorem g_22 {O : pO} {j n0 : Nat} {Q : pQ} {pc : Nat} {L : pL} {S : List pv} {n : Nat} {M : pM} {a : Nat} (hm : mO j = 5) (hd : decode (mB j) pc = .ok (.getfield 98, 3)) : J O j n0 Q pc L (vr (a + 1) :: S) n M = (ob n a = 4 ∧ J O j n0 Q (pc + 3) L (vi (M a 3) :: S) n M) := J_get fe_22 (by rw [hm]) hd
theorem p_22 {O : pO} {j n0 : Nat} {Q : pQ} {pc : Nat} {L : pL} {S : List pv} {n : Nat} {M : pM} {a : Nat} {x : Int} (hm : mO j = 5) (hd : decode (mB j) pc = .ok (.putfield 98, 3)) : J O j n0 Q pc L (vi x :: vr (a + 1) :: S) n M = (ob n a = 4 ∧ J O j n0 Q (pc + 3) L S n (st M a 3 x)) := (J_put (C := True) (x := x) fe_22 (by rw [hm]) (Or.inl rfl) (fun y => by show (vi x = vi y) ↔ _; simp [eq_comm]) hd).trans (by simp only [true_and])
theorem fe_23 : (4, 18, 4, 4, 277, 0) ∈ fldL := by decide +kernel
theorem g_23 {O : pO} {j n0 : Nat} {Q : pQ} {pc : Nat} {L : pL} {S : List pv} {n : Nat} {M : pM} {a : Nat} (hm : mO j = 4) (hd : decode (mB j) pc = .ok (.getfield 18, 3)) : J O j n0 Q pc L (vr (a + 1) :: S) n M = (ob n a = 4 ∧ J O j n0 Q (pc + 3) L (vr (M a 4).toNat :: S) n M) := J_get fe_23 (by rw [hm]) hd
theorem p_23 {O : pO} {j n0 : Nat} {Q : pQ} {pc : Nat} {L : pL} {S : List pv} {n : Nat} {M : pM} {a b : Nat} (hm : mO j = 4) (hi : (mY j).name = "<init>") (hd : decode (mB j) pc = .ok (.putfield 18, 3)) : J O j n0 Q pc L (vr b :: vr (a + 1) :: S) n M = (ob n a = 4 ∧ J O j n0 Q (pc + 3) L S n (st M a 4 (b : Int))) := (J_put (C := True) (x := (b : Int)) fe_23 (by rw [hm]) (Or.inr ⟨hi, hm.symm, rfl⟩) (fun y => by show (∃ k : Nat, vr b = vr k ∧ y = (k : Int)) ↔ _; refine ⟨fun h => ?_, fun h => ⟨b, rfl, h.2⟩⟩; obtain ⟨k, h1, h2⟩ := h; cases h1; exact ⟨trivial, h2⟩) hd).trans (by simp only [true_and])
theorem fe_24 : (5, 104, 4, 4, 278, 1) ∈ fldL := by decide +kernel
theorem g_24 {O : pO} {j n0 : Nat} {Q : pQ} {pc : Nat} {L : pL} {S : List pv} {n : Nat} {M : pM} {a : Nat} (hm : mO j = 5) (hd : decode (mB j) pc = .ok (.getfield 104, 3)) : J O j n0 Q pc L (vr (a + 1) :: S) n M = (ob n a = 4 ∧ J O j n0 Q (pc + 3) L (vr (M a 4).toNat :: S) n M) := J_get fe_24 (by rw [hm]) hd
theorem fe_25 : (4, 21, 4, 5, 279, 0) ∈ fldL := by decide +kernel
theorem g_25 {O : pO} {j n0 : Nat} {Q : pQ} {pc : Nat} {L : pL} {S : List pv} {n : Nat} {M : pM} {a : Nat} (hm : mO j = 4) (hd : decode (mB j) pc = .ok (.getfield 21, 3)) : J O j n0 Q pc L (vr (a + 1) :: S) n M = (ob n a = 4 ∧ J O j n0 Q (pc + 3) L (vr (M a 5).toNat :: S) n M) := J_get fe_25 (by rw [hm]) hd
theorem p_25 {O : pO} {j n0 : Nat} {Q : pQ} {pc : Nat} {L : pL} {S : List pv} {n : Nat} {M : pM} {a b : Nat} (hm : mO j = 4) (hi : (mY j).name = "<init>") (hd : decode (mB j) pc = .ok (.putfield 21, 3)) : J O j n0 Q pc L (vr b :: vr (a + 1) :: S) n M = (ob n a = 4 ∧ J O j n0 Q (pc + 3) L S n (st M a 5 (b : Int))) := (J_put (C := True) (x := (b : Int)) fe_25 (by rw [hm]) (Or.inr ⟨hi, hm.symm, rfl⟩) (fun y => by show (∃ k : Nat, vr b = vr k ∧ y = (k : Int)) ↔ _; refine ⟨fun h => ?_, fun h => ⟨b, rfl, h.2⟩⟩; obtain ⟨k, h1, h2⟩ := h; cases h1; exact ⟨trivial, h2⟩) hd).trans (by simp only [true_and])
theorem fe_26 : (5, 114, 4, 5, 280, 1) ∈ fldL := by decide +kernel
theorem g_26 {O : pO} {j n0 : Nat} {Q : pQ} {pc : Nat} {L : pL} {S : List pv} {n : Nat} {M : pM} {a : Nat} (hm : mO j = 5) (hd : decode (mB j) pc = .ok (.getfield 114, 3)) : J O j n0 Q pc L (vr (a + 1) :: S) n M = (ob n a = 4 ∧ J O j n0 Q (pc + 3) L (vr (M a 5).toNat :: S) n M) := J_get fe_26 (by rw [hm]) hd
theorem fe_27 : (4, 24, 4, 6, 281, 0) ∈ fldL := by decide +kernel
theorem g_27 {O : pO} {j n0 : Nat} {Q : pQ} {pc : Nat} {L : pL} {S : List pv} {n : Nat} {M : pM} {a : Nat} (hm : mO j = 4) (hd : decode (mB j) pc = .ok (.getfield 24, 3)) : J O j n0 Q pc L (vr (a + 1) :: S) n M = (ob n a = 4 ∧ J O j n0 Q (pc + 3) L (vr (M a 6).toNat :: S) n M) := J_get fe_27 (by rw [hm]) hd
theorem p_27 {O : pO} {j n0 : Nat} {Q : pQ} {pc : Nat} {L : pL} {S : List pv} {n : Nat} {M : pM} {a b : Nat} (hm : mO j = 4) (hi : (mY j).name = "<init>") (hd : decode (mB j) pc = .ok (.putfield 24, 3)) : J O j n0 Q pc L (vr b :: vr (a + 1) :: S) n M = (ob n a = 4 ∧ J O j n0 Q (pc + 3) L S n (st M a 6 (b : Int))) := (J_put (C := True) (x := (b : Int)) fe_27 (by rw [hm]) (Or.inr ⟨hi, hm.symm, rfl⟩) (fun y => by show (∃ k : Nat, vr b = vr k ∧ y = (k : Int)) ↔ _; refine ⟨fun h => ?_, fun h => ⟨b, rfl, h.2⟩⟩; obtain ⟨k, h1, h2⟩ := h; cases h1; exact ⟨trivial, h2⟩) hd).trans (by simp only [true_and])
theorem fe_28 : (5, 130, 4, 6, 282, 1) ∈ fldL := by decide +kernel
theorem g_28 {O : pO} {j n0 : Nat} {Q : pQ} {pc : Nat} {L : pL} {S : List pv} {n : Nat} {M : pM} {a : Nat} (hm : mO j = 5) (hd : decode (mB j) pc = .ok (.getfield 130, 3)) : J O j n0 Q pc L (vr (a + 1) :: S) n M = (ob n a = 4 ∧ J O j n0 Q (pc + 3) L (vr (M a 6).toNat :: S) n M) := J_get fe_28 (by rw [hm]) hd
theorem fe_29 : (4, 50, 4, 7, 283, 0) ∈ fldL := by decide +kernel
theorem g_29 {O : pO} {j n0 : Nat} {Q : pQ} {pc : Nat} {L : pL} {S : List pv} {n : Nat} {M : pM} {a : Nat} (hm : mO j = 4) (hd : decode (mB j) pc = .ok (.getfield 50, 3)) : J O j n0 Q pc L (vr (a + 1) :: S) n M = (ob n a = 4 ∧ J O j n0 Q (pc + 3) L (vi (M a 7) :: S) n M) := J_get fe_29 (by rw [hm]) hd
theorem p_29 {O : pO} {j n0 : Nat} {Q : pQ} {pc : Nat} {L : pL} {S : List pv} {n : Nat} {M : pM} {a : Nat} {x : Int} (hm : mO j = 4) (hd : decode (mB j) pc = .ok (.putfield 50, 3)) : J O j n0 Q pc L (vi x :: vr (a + 1) :: S) n M = (ob n a = 4 ∧ J O j n0 Q (pc + 3) L S n (st M a 7 x)) := (J_put (C := True) (x := x) fe_29 (by rw [hm]) (Or.inl rfl) (fun y => by show (vi x = vi y) ↔ _; simp [eq_comm]) hd).trans (by simp only [true_and])
theorem fe_30 : (5, 120, 4, 7, 284, 1) ∈ fldL := by decide +kernel
theorem g_30 {O : pO} {j n0 : Nat} {Q : pQ} {pc : Nat} {L : pL} {S : List pv} {n : Nat} {M : pM} {a : Nat} (hm : mO j = 5) (hd : decode (mB j) pc = .ok (.getfield 120, 3)) : J O j n0 Q pc L (vr (a + 1) :: S) n M = (ob n a = 4 ∧ J O j n0 Q (pc + 3) L (vi (M a 7) :: S) n M) := J_get fe_30 (by rw [hm]) hd
theorem p_30 {O : pO} {j n0 : Nat} {Q : pQ} {pc : Nat} {L : pL} {S : List pv} {n : Nat} {M : pM} {a : Nat} {x : Int} (hm : mO j = 5) (hd : decode (mB j) pc = .ok (.putfield 120, 3)) : J O j n0 Q pc L (vi x :: vr (a + 1) :: S) n M = (ob n a = 4 ∧ J O j n0 Q (pc + 3) L S n (st M a 7 x)) := (J_put (C := True) (x := x) fe_30 (by rw [hm]) (Or.inl rfl) (fun y => by show (vi x = vi y) ↔ _; simp [eq_comm]) hd).trans (by simp only [true_and])
theorem fe_31 : (8, 95, 4, 7, 285, 1) ∈ fldL := by decide +kernel
theorem g_31 {O : pO} {j n0 : Nat} {Q : pQ} {pc : Nat} {L : pL} {S : List pv} {n : Nat} {M : pM} {a : Nat} (hm : mO j = 8) (hd : decode (mB j) pc = .ok (.getfield 95, 3)) : J O j n0 Q pc L (vr (a + 1) :: S) n M = (ob n a = 4 ∧ J O j n0 Q (pc + 3) L (vi (M a 7) :: S) n M) := J_get fe_31 (by rw [hm]) hd
theorem p_31 {O : pO} {j n0 : Nat} {Q : pQ} {pc : Nat} {L : pL} {S : List pv} {n : Nat} {M : pM} {a : Nat} {x : Int} (hm : mO j = 8) (hd : decode (mB j) pc = .ok (.putfield 95, 3)) : J O j n0 Q pc L (vi x :: vr (a + 1) :: S) n M = (ob n a = 4 ∧ J O j n0 Q (pc + 3) L S n (st M a 7 x)) := (J_put (C := True) (x := x) fe_31 (by rw [hm]) (Or.inl rfl) (fun y => by show (vi x = vi y) ↔ _; simp [eq_comm]) hd).trans (by simp only [true_and])
theorem fe_32 : (11, 291, 4, 7, 286, 1) ∈ fldL := by decide +kernel
theorem g_32 {O : pO} {j n0 : Nat} {Q : pQ} {pc : Nat} {L : pL} {S : List pv} {n : Nat} {M : pM} {a : Nat} (hm : mO j = 11) (hd : decode (mB j) pc = .ok (.getfield 291, 3)) : J O j n0 Q pc L (vr (a + 1) :: S) n M = (ob n a = 4 ∧ J O j n0 Q (pc + 3) L (vi (M a 7) :: S) n M) := J_get fe_32 (by rw [hm]) hd
theorem p_32 {O : pO} {j n0 : Nat} {Q : pQ} {pc : Nat} {L : pL} {S : List pv} {n : Nat} {M : pM} {a : Nat} {x : Int} (hm : mO j = 11) (hd : decode (mB j) pc = .ok (.putfield 291, 3)) : J O j n0 Q pc L (vi x :: vr (a + 1) :: S) n M = (ob n a = 4 ∧ J O j n0 Q (pc + 3) L S n (st M a 7 x)) := (J_put (C := True) (x := x) fe_32 (by rw [hm]) (Or.inl rfl) (fun y => by show (vi x = vi y) ↔ _; simp [eq_comm]) hd).trans (by simp only [true_and])
theorem fe_33 : (4, 53, 4, 8, 287, 0) ∈ fldL := by decide +kernel
theorem g_33 {O : pO} {j n0 : Nat} {Q : pQ} {pc : Nat} {L : pL} {S : List pv} {n : Nat} {M : pM} {a : Nat} (hm : mO j = 4) (hd : decode (mB j) pc = .ok (.getfield 53, 3)) : J O j n0 Q pc L (vr (a + 1) :: S) n M = (ob n a = 4 ∧ J O j n0 Q (pc + 3) L (vl (M a 8) :: S) n M) := J_get fe_33 (by rw [hm]) hd
theorem p_33 {O : pO} {j n0 : Nat} {Q : pQ} {pc : Nat} {L : pL} {S : List pv} {n : Nat} {M : pM} {a : Nat} {x : Int} (hm : mO j = 4) (hd : decode (mB j) pc = .ok (.putfield 53, 3)) : J O j n0 Q pc L (vl x :: vr (a + 1) :: S) n M = (ob n a = 4 ∧ J O j n0 Q (pc + 3) L S n (st M a 8 x)) := (J_put (C := True) (x := x) fe_33 (by rw [hm]) (Or.inl rfl) (fun y => by show (vl x = vl y) ↔ _; simp [eq_comm]) hd).trans (by simp only [true_and])
theorem fe_34 : (1, 92, 4, 8, 288, 1) ∈ fldL := by decide +kernel
theorem g_34 {O : pO} {j n0 : Nat} {Q : pQ} {pc : Nat} {L : pL} {S : List pv} {n : Nat} {M : pM} {a : Nat} (hm : mO j = 1) (hd : decode (mB j) pc = .ok (.getfield 92, 3)) : J O j n0 Q pc L (vr (a + 1) :: S) n M = (ob n a = 4 ∧ J O j n0 Q (pc + 3) L (vl (M a 8) :: S) n M) := J_get fe_34 (by rw [hm]) hd
theorem p_34 {O : pO} {j n0 : Nat} {Q : pQ} {pc : Nat} {L : pL} {S : List pv} {n : Nat} {M : pM} {a : Nat} {x : Int} (hm : mO j = 1) (hd : decode (mB j) pc = .ok (.putfield 92, 3)) : J O j n0 Q pc L (vl x :: vr (a + 1) :: S) n M = (ob n a = 4 ∧ J O j n0 Q (pc + 3) L S n (st M a 8 x)) := (J_put (C := True) (x := x) fe_34 (by rw [hm]) (Or.inl rfl) (fun y => by show (vl x = vl y) ↔ _; simp [eq_comm]) hd).trans (by simp only [true_and])
theorem fe_35 : (5, 133, 4, 8, 289, 1) ∈ fldL := by decide +kernel
theorem g_35 {O : pO} {j n0 : Nat} {Q : pQ} {pc : Nat} {L : pL} {S : List pv} {n : Nat} {M : pM} {a : Nat} (hm : mO j = 5) (hd : decode (mB j) pc = .ok (.getfield 133, 3)) : J O j n0 Q pc L (vr (a + 1) :: S) n M = (ob n a = 4 ∧ J O j n0 Q (pc + 3) L (vl (M a 8) :: S) n M) := J_get fe_35 (by rw [hm]) hd
theorem p_35 {O : pO} {j n0 : Nat} {Q : pQ} {pc : Nat} {L : pL} {S : List pv} {n : Nat} {M : pM} {a : Nat} {x : Int} (hm : mO j = 5) (hd : decode (mB j) pc = .ok (.putfield 133, 3)) : J O j n0 Q pc L (vl x :: vr (a + 1) :: S) n M = (ob n a = 4 ∧ J O j n0 Q (pc + 3) L S n (st M a 8 x)) := (J_put (C := True) (x := x) fe_35 (by rw [hm]) (Or.inl rfl) (fun y => by show (vl x = vl y) ↔ _; simp [eq_comm]) hd).trans (by simp only [true_and])
theorem fe_36 : (11, 294, 4, 8, 290, 1) ∈ fldL := by decide +kernel
theorem g_36 {O : pO} {j n0 : Nat} {Q : pQ} {pc : Nat} {L : pL} {S : List pv} {n : Nat} {M : pM} {a : Nat} (hm : mO j = 11) (hd : decode (mB j) pc = .ok (.getfield 294, 3)) : J O j n0 Q pc L (vr (a + 1) :: S) n M = (ob n a = 4 ∧ J O j n0 Q (pc + 3) L (vl (M a 8) :: S) n M) := J_get fe_36 (by rw [hm]) hd
theorem p_36 {O : pO} {j n0 : Nat} {Q : pQ} {pc : Nat} {L : pL} {S : List pv} {n : Nat} {M : pM} {a : Nat} {x : Int} (hm : mO j = 11) (hd : decode (mB j) pc = .ok (.putfield 294, 3)) : J O j n0 Q pc L (vl x :: vr (a + 1) :: S) n M = (ob n a = 4 ∧ J O j n0 Q (pc + 3) L S n (st M a 8 x)) := (J_put (C := True) (x := x) fe_36 (by rw [hm]) (Or.inl rfl) (fun y => by show (vl x = vl y) ↔ _; simp [eq_comm]) hd).trans (by simp only [true_and])
theorem fe_37 : (4, 27, 4, 9, 291, 0) ∈ fldL := by decide +kernel
theorem g_37 {O : pO} {j n0 : Nat} {Q : pQ} {pc : Nat} {L : pL} {S : List pv} {n : Nat} {M : pM} {a : Nat} (hm : mO j = 4) (hd : decode (mB j) pc = .ok (.getfield 27, 3)) : J O j n0 Q pc L (vr (a + 1) :: S) n M = (ob n a = 4 ∧ J O j n0 Q (pc + 3) L (vr (M a 9).toNat :: S) n M) := J_get fe_37 (by rw [hm]) hd
theorem p_37 {O : pO} {j n0 : Nat} {Q : pQ} {pc : Nat} {L : pL} {S : List pv} {n : Nat} {M : pM} {a b : Nat} (hm : mO j = 4) (hi : (mY j).name = "<init>") (hd : decode (mB j) pc = .ok (.putfield 27, 3)) : J O j n0 Q pc L (vr b :: vr (a + 1) :: S) n M = (ob n a = 4 ∧ J O j n0 Q (pc + 3) L S n (st M a 9 (b : Int))) := (J_put (C := True) (x := (b : Int)) fe_37 (by rw [hm]) (Or.inr ⟨hi, hm.symm, rfl⟩) (fun y => by show (∃ k : Nat, vr b = vr k ∧ y = (k : Int)) ↔ _; refine ⟨fun h => ?_, fun h => ⟨b, rfl, h.2⟩⟩; obtain ⟨k, h1, h2⟩ := h; cases h1; exact ⟨trivial, h2⟩) hd).trans (by simp only [true_and])
theorem fe_38 : (10, 47, 4, 9, 292, 1) ∈ fldL := by decide +kernel
theorem g_38 {O : pO} {j n0 : Nat} {Q : pQ} {pc : Nat} {L : pL} {S : List pv} {n : Nat} {M : pM} {a : Nat} (hm : mO j = 10) (hd : decode (mB j) pc = .ok (.getfield 47, 3)) : J O j n0 Q pc L (vr (a + 1) :: S) n M = (ob n a = 4 ∧ J O j n0 Q (pc + 3) L (vr (M a 9).toNat :: S) n M) := J_get fe_38 (by rw [hm]) hd
theorem fe_39 : (5, 140, 4, 9, 293, 1) ∈ fldL := by decide +kernel
theorem g_39 {O : pO} {j n0 : Nat} {Q : pQ} {pc : Nat} {L : pL} {S : List pv} {n : Nat} {M : pM} {a : Nat} (hm : mO j = 5) (hd : decode (mB j) pc = .ok (.getfield 140, 3)) : J O j n0 Q pc L (vr (a + 1) :: S) n M = (ob n a = 4 ∧ J O j n0 Q (pc + 3) L (vr (M a 9).toNat :: S) n M) := J_get fe_39 (by rw [hm]) hd
theorem fe_40 : (4, 57, 4, 10, 294, 0) ∈ fldL := by decide +kernel
theorem g_40 {O : pO} {j n0 : Nat} {Q : pQ} {pc : Nat} {L : pL} {S : List pv} {n : Nat} {M : pM} {a : Nat} (hm : mO j = 4) (hd : decode (mB j) pc = .ok (.getfield 57, 3)) : J O j n0 Q pc L (vr (a + 1) :: S) n M = (ob n a = 4 ∧ J O j n0 Q (pc + 3) L (vi (M a 10) :: S) n M) := J_get fe_40 (by rw [hm]) hd
theorem p_40 {O : pO} {j n0 : Nat} {Q : pQ} {pc : Nat} {L : pL} {S : List pv} {n : Nat} {M : pM} {a : Nat} {x : Int} (hm : mO j = 4) (hd : decode (mB j) pc = .ok (.putfield 57, 3)) : J O j n0 Q pc L (vi x :: vr (a + 1) :: S) n M = (ob n a = 4 ∧ J O j n0 Q (pc + 3) L S n (st M a 10 x)) := (J_put (C := True) (x := x) fe_40 (by rw [hm]) (Or.inl rfl) (fun y => by show (vi x = vi y) ↔ _; simp [eq_comm]) hd).trans (by simp only [true_and])
theorem fe_41 : (10, 42, 4, 10, 295, 1) ∈ fldL := by decide +kernel
theorem g_41 {O : pO} {j n0 : Nat} {Q : pQ} {pc : Nat} {L : pL} {S : List pv} {n : Nat} {M : pM} {a : Nat} (hm : mO j = 10) (hd : decode (mB j) pc = .ok (.getfield 42, 3)) : J O j n0 Q pc L (vr (a + 1) :: S) n M = (ob n a = 4 ∧ J O j n0 Q (pc + 3) L (vi (M a 10) :: S) n M) := J_get fe_41 (by rw [hm]) hd
theorem p_41 {O : pO} {j n0 : Nat} {Q : pQ} {pc : Nat} {L : pL} {S : List pv} {n : Nat} {M : pM} {a : Nat} {x : Int} (hm : mO j = 10) (hd : decode (mB j) pc = .ok (.putfield 42, 3)) : J O j n0 Q pc L (vi x :: vr (a + 1) :: S) n M = (ob n a = 4 ∧ J O j n0 Q (pc + 3) L S n (st M a 10 x)) := (J_put (C := True) (x := x) fe_41 (by rw [hm]) (Or.inl rfl) (fun y => by show (vi x = vi y) ↔ _; simp [eq_comm]) hd).trans (by simp only [true_and])
theorem fe_42 : (5, 137, 4, 10, 296, 1) ∈ fldL := by decide +kernel
theorem g_42 {O : pO} {j n0 : Nat} {Q : pQ} {pc : Nat} {L : pL} {S : List pv} {n : Nat} {M : pM} {a : Nat} (hm : mO j = 5) (hd : decode (mB j) pc = .ok (.getfield 137, 3)) : J O j n0 Q pc L (vr (a + 1) :: S) n M = (ob n a = 4 ∧ J O j n0 Q (pc + 3) L (vi (M a 10) :: S) n M) := J_get fe_42 (by rw [hm]) hd
theorem p_42 {O : pO} {j n0 : Nat} {Q : pQ} {pc : Nat} {L : pL} {S : List pv} {n : Nat} {M : pM} {a : Nat} {x : Int} (hm : mO j = 5) (hd : decode (mB j) pc = .ok (.putfield 137, 3)) : J O j n0 Q pc L (vi x :: vr (a + 1) :: S) n M = (ob n a = 4 ∧ J O j n0 Q (pc + 3) L S n (st M a 10 x)) := (J_put (C := True) (x := x) fe_42 (by rw [hm]) (Or.inl rfl) (fun y => by show (vi x = vi y) ↔ _; simp [eq_comm]) hd).trans (by simp only [true_and])
theorem fe_43 : (11, 304, 4, 10, 297, 1) ∈ fldL := by decide +kernel
theorem g_43 {O : pO} {j n0 : Nat} {Q : pQ} {pc : Nat} {L : pL} {S : List pv} {n : Nat} {M : pM} {a : Nat} (hm : mO j = 11) (hd : decode (mB j) pc = .ok (.getfield 304, 3)) : J O j n0 Q pc L (vr (a + 1) :: S) n M = (ob n a = 4 ∧ J O j n0 Q (pc + 3) L (vi (M a 10) :: S) n M) := J_get fe_43 (by rw [hm]) hd
theorem p_43 {O : pO} {j n0 : Nat} {Q : pQ} {pc : Nat} {L : pL} {S : List pv} {n : Nat} {M : pM} {a : Nat} {x : Int} (hm : mO j = 11) (hd : decode (mB j) pc = .ok (.putfield 304, 3)) : J O j n0 Q pc L (vi x :: vr (a + 1) :: S) n M = (ob n a = 4 ∧ J O j n0 Q (pc + 3) L S n (st M a 10 x)) := (J_put (C := True) (x := x) fe_43 (by rw [hm]) (Or.inl rfl) (fun y => by show (vi x = vi y) ↔ _; simp [eq_comm]) hd).trans (by simp only [true_and])
theorem fe_44 : (4, 30, 4, 11, 298, 0) ∈ fldL := by decide +kernel
theorem g_44 {O : pO} {j n0 : Nat} {Q : pQ} {pc : Nat} {L : pL} {S : List pv} {n : Nat} {M : pM} {a : Nat} (hm : mO j = 4) (hd : decode (mB j) pc = .ok (.getfield 30, 3)) : J O j n0 Q pc L (vr (a + 1) :: S) n M = (ob n a = 4 ∧ J O j n0 Q (pc + 3) L (vr (M a 11).toNat :: S) n M) := J_get fe_44 (by rw [hm]) hd
theorem p_44 {O : pO} {j n0 : Nat} {Q : pQ} {pc : Nat} {L : pL} {S : List pv} {n : Nat} {M : pM} {a b : Nat} (hm : mO j = 4) (hi : (mY j).name = "<init>") (hd : decode (mB j) pc = .ok (.putfield 30, 3)) : J O j n0 Q pc L (vr b :: vr (a + 1) :: S) n M = (ob n a = 4 ∧ J O j n0 Q (pc + 3) L S n (st M a 11 (b : Int))) := (J_put (C := True) (x := (b : Int)) fe_44 (by rw [hm]) (Or.inr ⟨hi, hm.symm, rfl⟩) (fun y => by show (∃ k : Nat, vr b = vr k ∧ y = (k : Int)) ↔ _; refine ⟨fun h => ?_, fun h => ⟨b, rfl, h.2⟩⟩; obtain ⟨k, h1, h2⟩ := h; cases h1; exact ⟨trivial, h2⟩) hd).trans (by simp only [true_and])
theorem fe_45 : (5, 160, 4, 11, 299, 1) ∈ fldL := by decide +kernel
theorem g_45 {O : pO} {j n0 : Nat} {Q : pQ} {pc : Nat} {L : pL} {S : List pv} {n : Nat} {M : pM} {a : Nat} (hm : mO j = 5) (hd : decode (mB j) pc = .ok (.getfield 160, 3)) : J O j n0 Q pc L (vr (a + 1) :: S) n M = (ob n a = 4 ∧ J O j n0 Q (pc + 3) L (vr (M a 11).toNat :: S) n M) := J_get fe_45 (by rw [hm]) hd
theorem fe_46 : (4, 34, 4, 12, 300, 0) ∈ fldL := by decide +kernel
theorem g_46 {O : pO} {j n0 : Nat} {Q : pQ} {pc : Nat} {L : pL} {S : List pv} {n : Nat} {M : pM} {a : Nat} (hm : mO j = 4) (hd : decode (mB j) pc = .ok (.getfield 34, 3)) : J O j n0 Q pc L (vr (a + 1) :: S) n M = (ob n a = 4 ∧ J O j n0 Q (pc + 3) L (vr (M a 12).toNat :: S) n M) := J_get fe_46 (by rw [hm]) hd
theorem p_46 {O : pO} {j n0 : Nat} {Q : pQ} {pc : Nat} {L : pL} {S : List pv} {n : Nat} {M : pM} {a b : Nat} (hm : mO j = 4) (hi : (mY j).name = "<init>") (hd : decode (mB j) pc = .ok (.putfield 34, 3)) : J O j n0 Q pc L (vr b :: vr (a + 1) :: S) n M = (ob n a = 4 ∧ J O j n0 Q (pc + 3) L S n (st M a 12 (b : Int))) := (J_put (C := True) (x := (b : Int)) fe_46 (by rw [hm]) (Or.inr ⟨hi, hm.symm, rfl⟩) (fun y => by show (∃ k : Nat, vr b = vr k ∧ y = (k : Int)) ↔ _; refine ⟨fun h => ?_, fun h => ⟨b, rfl, h.2⟩⟩; obtain ⟨k, h1, h2⟩ := h; cases h1; exact ⟨trivial, h2⟩) hd).trans (by simp only [true_and])
theorem fe_47 : (5, 157, 4, 12, 301, 1) ∈ fldL := by decide +kernel
theorem g_47 {O : pO} {j n0 : Nat} {Q : pQ} {pc : Nat} {L : pL} {S : List pv} {n : Nat} {M : pM} {a : Nat} (hm : mO j = 5) (hd : decode (mB j) pc = .ok (.getfield 157, 3)) : J O j n0 Q pc L (vr (a + 1) :: S) n M = (ob n a = 4 ∧ J O j n0 Q (pc + 3) L (vr (M a 12).toNat :: S) n M) := J_get fe_47 (by rw [hm]) hd
theorem fe_48 : (4, 60, 4, 13, 302, 0) ∈ fldL := by decide +kernel
theorem g_48 {O : pO} {j n0 : Nat} {Q : pQ} {pc : Nat} {L : pL} {S : List pv} {n : Nat} {M : pM} {a : Nat} (hm : mO j = 4) (hd : decode (mB j) pc = .ok (.getfield 60, 3)) : J O j n0 Q pc L (vr (a + 1) :: S) n M = (ob n a = 4 ∧ J O j n0 Q (pc + 3) L (vi (M a 13) :: S) n M) := J_get fe_48 (by rw [hm]) hd
theorem p_48 {O : pO} {j n0 : Nat} {Q : pQ} {pc : Nat} {L : pL} {S : List pv} {n : Nat} {M : pM} {a : Nat} {x : Int} (hm : mO j = 4) (hd : decode (mB j) pc = .ok (.putfield 60, 3)) : J O j n0 Q pc L (vi x :: vr (a + 1) :: S) n M = (ob n a = 4 ∧ J O j n0 Q (pc + 3) L S n (st M a 13 x)) := (J_put (C := True) (x := x) fe_48 (by rw [hm]) (Or.inl rfl) (fun y => by show (vi x = vi y) ↔ _; simp [eq_comm]) hd).trans (by simp only [true_and])
theorem fe_49 : (5, 143, 4, 13, 303, 1) ∈ fldL := by decide +kernel
theorem g_49 {O : pO} {j n0 : Nat} {Q : pQ} {pc : Nat} {L : pL} {S : List pv} {n : Nat} {M : pM} {a : Nat} (hm : mO j = 5) (hd : decode (mB j) pc = .ok (.getfield 143, 3)) : J O j n0 Q pc L (vr (a + 1) :: S) n M = (ob n a = 4 ∧ J O j n0 Q (pc + 3) L (vi (M a 13) :: S) n M) := J_get fe_49 (by rw [hm]) hd
theorem p_49 {O : pO} {j n0 : Nat} {Q : pQ} {pc : Nat} {L : pL} {S : List pv} {n : Nat} {M : pM} {a : Nat} {x : Int} (hm : mO j = 5) (hd : decode (mB j) pc = .ok (.putfield 143, 3)) : J O j n0 Q pc L (vi x :: vr (a + 1) :: S) n M = (ob n a = 4 ∧ J O j n0 Q (pc + 3) L S n (st M a 13 x)) := (J_put (C := True) (x := x) fe_49 (by rw [hm]) (Or.inl rfl) (fun y => by show (vi x = vi y) ↔ _; simp [eq_comm]) hd).trans (by simp only [true_and])
theorem fe_50 : (11, 307, 4, 13, 304, 1) ∈ fldL := by decide +kernel
theorem g_50 {O : pO} {j n0 : Nat} {Q : pQ} {pc : Nat} {L : pL} {S : List pv} {n : Nat} {M : pM} {a : Nat} (hm : mO j = 11) (hd : decode (mB j) pc = .ok (.getfield 307, 3)) : J O j n0 Q pc L (vr (a + 1) :: S) n M = (ob n a = 4 ∧ J O j n0 Q (pc + 3) L (vi (M a 13) :: S) n M) := J_get fe_50 (by rw [hm]) hd
theorem p_50 {O : pO} {j n0 : Nat} {Q : pQ} {pc : Nat} {L : pL} {S : List pv} {n : Nat} {M : pM} {a : Nat} {x : Int} (hm : mO j = 11) (hd : decode (mB j) pc = .ok (.putfield 307, 3)) : J O j n0 Q pc L (vi x :: vr (a + 1) :: S) n M = (ob n a = 4 ∧ J O j n0 Q (pc + 3) L S n (st M a 13 x)) := (J_put (C := True) (x := x) fe_50 (by rw [hm]) (Or.inl rfl) (fun y => by show (vi x = vi y) ↔ _; simp [eq_comm]) hd).trans (by simp only [true_and])
theorem fe_51 : (4, 63, 4, 14, 305, 0) ∈ fldL := by decide +kernel
theorem g_51 {O : pO} {j n0 : Nat} {Q : pQ} {pc : Nat} {L : pL} {S : List pv} {n : Nat} {M : pM} {a : Nat} (hm : mO j = 4) (hd : decode (mB j) pc = .ok (.getfield 63, 3)) : J O j n0 Q pc L (vr (a + 1) :: S) n M = (ob n a = 4 ∧ J O j n0 Q (pc + 3) L (vi (M a 14) :: S) n M) := J_get fe_51 (by rw [hm]) hd
theorem p_51 {O : pO} {j n0 : Nat} {Q : pQ} {pc : Nat} {L : pL} {S : List pv} {n : Nat} {M : pM} {a : Nat} {x : Int} (hm : mO j = 4) (hd : decode (mB j) pc = .ok (.putfield 63, 3)) : J O j n0 Q pc L (vi x :: vr (a + 1) :: S) n M = (ob n a = 4 ∧ J O j n0 Q (pc + 3) L S n (st M a 14 x)) := (J_put (C := True) (x := x) fe_51 (by rw [hm]) (Or.inl rfl) (fun y => by show (vi x = vi y) ↔ _; simp [eq_comm]) hd).trans (by simp only [true_and])
theorem fe_52 : (5, 70, 4, 14, 306, 1) ∈ fldL := by decide +kernel
theorem g_52 {O : pO} {j n0 : Nat} {Q : pQ} {pc : Nat} {L : pL} {S : List pv} {n : Nat} {M : pM} {a : Nat} (hm : mO j = 5) (hd : decode (mB j) pc = .ok (.getfield 70, 3)) : J O j n0 Q pc L (vr (a + 1) :: S) n M = (ob n a = 4 ∧ J O j n0 Q (pc + 3) L (vi (M a 14) :: S) n M) := J_get fe_52 (by rw [hm]) hd
theorem p_52 {O : pO} {j n0 : Nat} {Q : pQ} {pc : Nat} {L : pL} {S : List pv} {n : Nat} {M : pM} {a : Nat} {x : Int} (hm : mO j = 5) (hd : decode (mB j) pc = .ok (.putfield 70, 3)) : J O j n0 Q pc L (vi x :: vr (a + 1) :: S) n M = (ob n a = 4 ∧ J O j n0 Q (pc + 3) L S n (st M a 14 x)) := (J_put (C := True) (x := x) fe_52 (by rw [hm]) (Or.inl rfl) (fun y => by show (vi x = vi y) ↔ _; simp [eq_comm]) hd).trans (by simp only [true_and])
theorem fe_53 : (11, 128, 4, 14, 307, 1) ∈ fldL := by decide +kernel
theorem g_53 {O : pO} {j n0 : Nat} {Q : pQ} {pc : Nat} {L : pL} {S : List pv} {n : Nat} {M : pM} {a : Nat} (hm : mO j = 11) (hd : decode (mB j) pc = .ok (.getfield 128, 3)) : J O j n0 Q pc L (vr (a + 1) :: S) n M = (ob n a = 4 ∧ J O j n0 Q (pc + 3) L (vi (M a 14) :: S) n M) := J_get fe_53 (by rw [hm]) hd
theorem p_53 {O : pO} {j n0 : Nat} {Q : pQ} {pc : Nat} {L : pL} {S : List pv} {n : Nat} {M : pM} {a : Nat} {x : Int} (hm : mO j = 11) (hd : decode (mB j) pc = .ok (.putfield 128, 3)) : J O j n0 Q pc L (vi x :: vr (a + 1) :: S) n M = (ob n a = 4 ∧ J O j n0 Q (pc + 3) L S n (st M a 14 x)) := (J_put (C := True) (x := x) fe_53 (by rw [hm]) (Or.inl rfl) (fun y => by show (vi x = vi y) ↔ _; simp [eq_comm]) hd).trans (by simp only [true_and])
theorem fe_54 : (5, 9, 5, 0, 346, 0) ∈ fldL := by decide +kernel
theorem g_54 {O : pO} {j n0 : Nat} {Q : pQ} {pc : Nat} {L : pL} {S : List pv} {n : Nat} {M : pM} {a : Nat} (hm : mO j = 5) (hd : decode (mB j) pc = .ok (.getfield 9, 3)) : J O j n0 Q pc L (vr (a + 1) :: S) n M = (ob n a = 5 ∧ J O j n0 Q (pc + 3) L (vr (M a 0).toNat :: S) n M) := J_get fe_54 (by rw [hm]) hd
theorem p_54 {O : pO} {j n0 : Nat} {Q : pQ} {pc : Nat} {L : pL} {S : List pv} {n : Nat} {M : pM} {a b : Nat} (hm : mO j = 5) (hi : (mY j).name = "<init>") (hd : decode (mB j) pc = .ok (.putfield 9, 3)) : J O j n0 Q pc L (vr b :: vr (a + 1) :: S) n M = (ob n a = 5 ∧ J O j n0 Q (pc + 3) L S n (st M a 0 (b : Int))) := (J_put (C := True) (x := (b : Int)) fe_54 (by rw [hm]) (Or.inr ⟨hi, hm.symm, rfl⟩) (fun y => by show (∃ k : Nat, vr b = vr k ∧ y = (k : Int)) ↔ _; refine ⟨fun h => ?_, fun h => ⟨b, rfl, h.2⟩⟩; obtain ⟨k, h1, h2⟩ := h; cases h1; exact ⟨trivial, h2⟩) hd).trans (by simp only [true_and])
theorem fe_55 : (5, 15, 5, 1, 347, 0) ∈ fldL := by decide +kernel
theorem g_55 {O : pO} {j n0 : Nat} {Q : pQ} {pc : Nat} {L : pL} {S : List pv} {n : Nat} {M : pM} {a : Nat} (hm : mO j = 5) (hd : decode (mB j) pc = .ok (.getfield 15, 3)) : J O j n0 Q pc L (vr (a + 1) :: S) n M = (ob n a = 5 ∧ J O j n0 Q (pc + 3) L (vr (M a 1).toNat :: S) n M) := J_get fe_55 (by rw [hm]) hd
theorem p_55 {O : pO} {j n0 : Nat} {Q : pQ} {pc : Nat} {L : pL} {S : List pv} {n : Nat} {M : pM} {a b : Nat} (hm : mO j = 5) (hd : decode (mB j) pc = .ok (.putfield 15, 3)) : J O j n0 Q pc L (vr b :: vr (a + 1) :: S) n M = (ob n a = 5 ∧ J O j n0 Q (pc + 3) L S n (st M a 1 (b : Int))) := (J_put (C := True) (x := (b : Int)) fe_55 (by rw [hm]) (Or.inl rfl) (fun y => by show (∃ k : Nat, vr b = vr k ∧ y = (k : Int)) ↔ _; refine ⟨fun h => ?_, fun h => ⟨b, rfl, h.2⟩⟩; obtain ⟨k, h1, h2⟩ := h; cases h1; exact ⟨trivial, h2⟩) hd).trans (by simp only [true_and])
theorem fe_56 : (3, 21, 3, 0, 359, 0) ∈ fldL := by decide +kernel
theorem g_56 {O : pO} {j n0 : Nat} {Q : pQ} {pc : Nat} {L : pL} {S : List pv} {n : Nat} {M : pM} {a : Nat} (hm : mO j = 3) (hd : decode (mB j) pc = .ok (.getfield 21, 3)) : J O j n0 Q pc L (vr (a + 1) :: S) n M = (ob n a = 3 ∧ J O j n0 Q (pc + 3) L (vr (M a 0).toNat :: S) n M) := J_get fe_56 (by rw [hm]) hd
theorem p_56 {O : pO} {j n0 : Nat} {Q : pQ} {pc : Nat} {L : pL} {S : List pv} {n : Nat} {M : pM} {a b : Nat} (hm : mO j = 3) (hi : (mY j).name = "<init>") (hd : decode (mB j) pc = .ok (.putfield 21, 3)) : J O j n0 Q pc L (vr b :: vr (a + 1) :: S) n M = (ob n a = 3 ∧ J O j n0 Q (pc + 3) L S n (st M a 0 (b : Int))) := (J_put (C := True) (x := (b : Int)) fe_56 (by rw [hm]) (Or.inr ⟨hi, hm.symm, rfl⟩) (fun y => by show (∃ k : Nat, vr b = vr k ∧ y = (k : Int)) ↔ _; refine ⟨fun h => ?_, fun h => ⟨b, rfl, h.2⟩⟩; obtain ⟨k, h1, h2⟩ := h; cases h1; exact ⟨trivial, h2⟩) hd).trans (by simp only [true_and])
theorem fe_57 : (3, 11, 3, 1, 360, 0) ∈ fldL := by decide +kernel
theorem g_57 {O : pO} {j n0 : Nat} {Q : pQ} {pc : Nat} {L : pL} {S : List pv} {n : Nat} {M : pM} {a : Nat} (hm : mO j = 3) (hd : decode (mB j) pc = .ok (.getfield 11, 3)) : J O j n0 Q pc L (vr (a + 1) :: S) n M = (ob n a = 3 ∧ J O j n0 Q (pc + 3) L (vr (M a 1).toNat :: S) n M) := J_get fe_57 (by rw [hm]) hd
theorem p_57 {O : pO} {j n0 : Nat} {Q : pQ} {pc : Nat} {L : pL} {S : List pv} {n : Nat} {M : pM} {a b : Nat} (hm : mO j = 3) (hd : decode (mB j) pc = .ok (.putfield 11, 3)) : J O j n0 Q pc L (vr b :: vr (a + 1) :: S) n M = (ob n a = 3 ∧ J O j n0 Q (pc + 3) L S n (st M a 1 (b : Int))) := (J_put (C := True) (x := (b : Int)) fe_57 (by rw [hm]) (Or.inl rfl) (fun y => by show (∃ k : Nat, vr b = vr k ∧ y = (k : Int)) ↔ _; refine ⟨fun h => ?_, fun h => ⟨b, rfl, h.2⟩⟩; obtain ⟨k, h1, h2⟩ := h; cases h1; exact ⟨trivial, h2⟩) hd).trans (by simp only [true_and])
theorem fe_58 : (3, 55, 3, 2, 361, 0) ∈ fldL := by decide +kernel
theorem g_58 {O : pO} {j n0 : Nat} {Q : pQ} {pc : Nat} {L : pL} {S : List pv} {n : Nat} {M : pM} {a : Nat} (hm : mO j = 3) (hd : decode (mB j) pc = .ok (.getfield 55, 3)) : J O j n0 Q pc L (vr (a + 1) :: S) n M = (ob n a = 3 ∧ J O j n0 Q (pc + 3) L (vi (M a 2) :: S) n M) := J_get fe_58 (by rw [hm]) hd
theorem p_58 {O : pO} {j n0 : Nat} {Q : pQ} {pc : Nat} {L : pL} {S : List pv} {n : Nat} {M : pM} {a : Nat} {x : Int} (hm : mO j = 3) (hd : decode (mB j) pc = .ok (.putfield 55, 3)) : J O j n0 Q pc L (vi x :: vr (a + 1) :: S) n M = (ob n a = 3 ∧ J O j n0 Q (pc + 3) L S n (st M a 2 x)) := (J_put (C := True) (x := x) fe_58 (by rw [hm]) (Or.inl rfl) (fun y => by show (vi x = vi y) ↔ _; simp [eq_comm]) hd).trans (by simp only [true_and])
theorem fe_59 : (11, 318, 3, 2, 362, 1) ∈ fldL := by decide +kernel
theorem g_59 {O : pO} {j n0 : Nat} {Q : pQ} {pc : Nat} {L : pL} {S : List pv} {n : Nat} {M : pM} {a : Nat} (hm : mO j = 11) (hd : decode (mB j) pc = .ok (.getfield 318, 3)) : J O j n0 Q pc L (vr (a + 1) :: S) n M = (ob n a = 3 ∧ J O j n0 Q (pc + 3) L (vi (M a 2) :: S) n M) := J_get fe_59 (by rw [hm]) hd
theorem p_59 {O : pO} {j n0 : Nat} {Q : pQ} {pc : Nat} {L : pL} {S : List pv} {n : Nat} {M : pM} {a : Nat} {x : Int} (hm : mO j = 11) (hd : decode (mB j) pc = .ok (.putfield 318, 3)) : J O j n0 Q pc L (vi x :: vr (a + 1) :: S) n M = (ob n a = 3 ∧ J O j n0 Q (pc + 3) L S n (st M a 2 x)) := (J_put (C := True) (x := x) fe_59 (by rw [hm]) (Or.inl rfl) (fun y => by show (vi x = vi y) ↔ _; simp [eq_comm]) hd).trans (by simp only [true_and])
theorem fe_60 : (3, 15, 3, 3, 363, 0) ∈ fldL := by decide +kernel
theorem g_60 {O : pO} {j n0 : Nat} {Q : pQ} {pc : Nat} {L : pL} {S : List pv} {n : Nat} {M : pM} {a : Nat} (hm : mO j = 3) (hd : decode (mB j) pc = .ok (.getfield 15, 3)) : J O j n0 Q pc L (vr (a + 1) :: S) n M = (ob n a = 3 ∧ J O j n0 Q (pc + 3) L (vr (M a 3).toNat :: S) n M) := J_get fe_60 (by rw [hm]) hd
theorem p_60 {O : pO} {j n0 : Nat} {Q : pQ} {pc : Nat} {L : pL} {S : List pv} {n : Nat} {M : pM} {a b : Nat} (hm : mO j = 3) (hd : decode (mB j) pc = .ok (.putfield 15, 3)) : J O j n0 Q pc L (vr b :: vr (a + 1) :: S) n M = (ob n a = 3 ∧ J O j n0 Q (pc + 3) L S n (st M a 3 (b : Int))) := (J_put (C := True) (x := (b : Int)) fe_60 (by rw [hm]) (Or.inl rfl) (fun y => by show (∃ k : Nat, vr b = vr k ∧ y = (k : Int)) ↔ _; refine ⟨fun h => ?_, fun h => ⟨b, rfl, h.2⟩⟩; obtain ⟨k, h1, h2⟩ := h; cases h1; exact ⟨trivial, h2⟩) hd).trans (by simp only [true_and])
theorem fe_61 : (3, 31, 3, 4, 364, 0) ∈ fldL := by decide +kernel
theorem g_61 {O : pO} {j n0 : Nat} {Q : pQ} {pc : Nat} {L : pL} {S : List pv} {n : Nat} {M : pM} {a : Nat} (hm : mO j = 3) (hd : decode (mB j) pc = .ok (.getfield 31, 3)) : J O j n0 Q pc L (vr (a + 1) :: S) n M = (ob n a = 3 ∧ J O j n0 Q (pc + 3) L (vi (M a 4) :: S) n M) := J_get fe_61 (by rw [hm]) hd
theorem p_61 {O : pO} {j n0 : Nat} {Q : pQ} {pc : Nat} {L : pL} {S : List pv} {n : Nat} {M : pM} {a : Nat} {x : Int} (hm : mO j = 3) (hd : decode (mB j) pc = .ok (.putfield 31, 3)) : J O j n0 Q pc L (vi x :: vr (a + 1) :: S) n M = (ob n a = 3 ∧ J O j n0 Q (pc + 3) L S n (st M a 4 x)) := (J_put (C := True) (x := x) fe_61 (by rw [hm]) (Or.inl rfl) (fun y => by show (vi x = vi y) ↔ _; simp [eq_comm]) hd).trans (by simp only [true_and])
theorem fe_62 : (3, 35, 3, 5, 365, 0) ∈ fldL := by decide +kernel
theorem g_62 {O : pO} {j n0 : Nat} {Q : pQ} {pc : Nat} {L : pL} {S : List pv} {n : Nat} {M : pM} {a : Nat} (hm : mO j = 3) (hd : decode (mB j) pc = .ok (.getfield 35, 3)) : J O j n0 Q pc L (vr (a + 1) :: S) n M = (ob n a = 3 ∧ J O j n0 Q (pc + 3) L (vi (M a 5) :: S) n M) := J_get fe_62 (by rw [hm]) hd
theorem p_62 {O : pO} {j n0 : Nat} {Q : pQ} {pc : Nat} {L : pL} {S : List pv} {n : Nat} {M : pM} {a : Nat} {x : Int} (hm : mO j = 3) (hd : decode (mB j) pc = .ok (.putfield 35, 3)) : J O j n0 Q pc L (vi x :: vr (a + 1) :: S) n M = (ob n a = 3 ∧ J O j n0 Q (pc + 3) L S n (st M a 5 x)) := (J_put (C := True) (x := x) fe_62 (by rw [hm]) (Or.inl rfl) (fun y => by show (vi x = vi y) ↔ _; simp [eq_comm]) hd).trans (by simp only [true_and])
theorem fe_63 : (3, 18, 3, 6, 366, 0) ∈ fldL := by decide +kernel
theorem g_63 {O : pO} {j n0 : Nat} {Q : pQ} {pc : Nat} {L : pL} {S : List pv} {n : Nat} {M : pM} {a : Nat} (hm : mO j = 3) (hd : decode (mB j) pc = .ok (.getfield 18, 3)) : J O j n0 Q pc L (vr (a + 1) :: S) n M = (ob n a = 3 ∧ J O j n0 Q (pc + 3) L (vr (M a 6).toNat :: S) n M) := J_get fe_63 (by rw [hm]) hd
theorem p_63 {O : pO} {j n0 : Nat} {Q : pQ} {pc : Nat} {L : pL} {S : List pv} {n : Nat} {M : pM} {a b : Nat} (hm : mO j = 3) (hi : (mY j).name = "<init>") (hd : decode (mB j) pc = .ok (.putfield 18, 3)) : J O j n0 Q pc L (vr b :: vr (a + 1) :: S) n M = (ob n a = 3 ∧ J O j n0 Q (pc + 3) L S n (st M a 6 (b : Int))) := (J_put (C := True) (x := (b : Int)) fe_63 (by rw [hm]) (Or.inr ⟨hi, hm.symm, rfl⟩) (fun y => by show (∃ k : Nat, vr b = vr k ∧ y = (k : Int)) ↔ _; refine ⟨fun h => ?_, fun h => ⟨b, rfl, h.2⟩⟩; obtain ⟨k, h1, h2⟩ := h; cases h1; exact ⟨trivial, h2⟩) hd).trans (by simp only [true_and])
theorem fe_64 : (0, 9, 0, 0, 388, 0) ∈ fldL := by decide +kernel
theorem g_64 {O : pO} {j n0 : Nat} {Q : pQ} {pc : Nat} {L : pL} {S : List pv} {n : Nat} {M : pM} {a : Nat} (hm : mO j = 0) (hd : decode (mB j) pc = .ok (.getfield 9, 3)) : J O j n0 Q pc L (vr (a + 1) :: S) n M = (ob n a = 0 ∧ J O j n0 Q (pc + 3) L (vr (M a 0).toNat :: S) n M) := J_get fe_64 (by rw [hm]) hd
theorem p_64 {O : pO} {j n0 : Nat} {Q : pQ} {pc : Nat} {L : pL} {S : List pv} {n : Nat} {M : pM} {a b : Nat} (hm : mO j = 0) (hi : (mY j).name = "<init>") (hd : decode (mB j) pc = .ok (.putfield 9, 3)) : J O j n0 Q pc L (vr b :: vr (a + 1) :: S) n M = (ob n a = 0 ∧ J O j n0 Q (pc + 3) L S n (st M a 0 (b : Int))) := (J_put (C := True) (x := (b : Int)) fe_64 (by rw [hm]) (Or.inr ⟨hi, hm.symm, rfl⟩) (fun y => by show (∃ k : Nat, vr b = vr k ∧ y = (k : Int)) ↔ _; refine ⟨fun h => ?_, fun h => ⟨b, rfl, h.2⟩⟩; obtain ⟨k, h1, h2⟩ := h; cases h1; exact ⟨trivial, h2⟩) hd).trans (by simp only [true_and])
theorem fe_65 : (8, 52, 0, 0, 389, 1) ∈ fldL := by decide +kernel
theorem g_65 {O : pO} {j n0 : Nat} {Q : pQ} {pc : Nat} {L : pL} {S : List pv} {n : Nat} {M : pM} {a : Nat} (hm : mO j = 8) (hd : decode (mB j) pc = .ok (.getfield 52, 3)) : J O j n0 Q pc L (vr (a + 1) :: S) n M = (ob n a = 0 ∧ J O j n0 Q (pc + 3) L (vr (M a 0).toNat :: S) n M) := J_get fe_65 (by rw [hm]) hd
theorem fe_66 : (0, 23, 0, 1, 390, 0) ∈ fldL := by decide +kernel
theorem g_66 {O : pO} {j n0 : Nat} {Q : pQ} {pc : Nat} {L : pL} {S : List pv} {n : Nat} {M : pM} {a : Nat} (hm : mO j = 0) (hd : decode (mB j) pc = .ok (.getfield 23, 3)) : J O j n0 Q pc L (vr (a + 1) :: S) n M = (ob n a = 0 ∧ J O j n0 Q (pc + 3) L (vi (M a 1) :: S) n M) := J_get fe_66 (by rw [hm]) hd
theorem p_66 {O : pO} {j n0 : Nat} {Q : pQ} {pc : Nat} {L : pL} {S : List pv} {n : Nat} {M : pM} {a : Nat} {x : Int} (hm : mO j = 0) (hd : decode (mB j) pc = .ok (.putfield 23, 3)) : J O j n0 Q pc L (vi x :: vr (a + 1) :: S) n M = (ob n a = 0 ∧ J O j n0 Q (pc + 3) L S n (st M a 1 x)) := (J_put (C := True) (x := x) fe_66 (by rw [hm]) (Or.inl rfl) (fun y => by show (vi x = vi y) ↔ _; simp [eq_comm]) hd).trans (by simp only [true_and])
theorem fe_67 : (8, 49, 0, 1, 391, 1) ∈ fldL := by decide +kernel
theorem g_67 {O : pO} {j n0 : Nat} {Q : pQ} {pc : Nat} {L : pL} {S : List pv} {n : Nat} {M : pM} {a : Nat} (hm : mO j = 8) (hd : decode (mB j) pc = .ok (.getfield 49, 3)) : J O j n0 Q pc L (vr (a + 1) :: S) n M = (ob n a = 0 ∧ J O j n0 Q (pc + 3) L (vi (M a 1) :: S) n M) := J_get fe_67 (by rw [hm]) hd
theorem p_67 {O : pO} {j n0 : Nat} {Q : pQ} {pc : Nat} {L : pL} {S : List pv} {n : Nat} {M : pM} {a : Nat} {x : Int} (hm : mO j = 8) (hd : decode (mB j) pc = .ok (.putfield 49, 3)) : J O j n0 Q pc L (vi x :: vr (a + 1) :: S) n M = (ob n a = 0 ∧ J O j n0 Q (pc + 3) L S n (st M a 1 x)) := (J_put (C := True) (x := x) fe_67 (by rw [hm]) (Or.inl rfl) (fun y => by show (vi x = vi y) ↔ _; simp [eq_comm]) hd).trans (by simp only [true_and])
theorem fe_68 : (11, 317, 0, 1, 392, 1) ∈ fldL := by decide +kernel
theorem g_68 {O : pO} {j n0 : Nat} {Q : pQ} {pc : Nat} {L : pL} {S : List pv} {n : Nat} {M : pM} {a : Nat} (hm : mO j = 11) (hd : decode (mB j) pc = .ok (.getfield 317, 3)) : J O j n0 Q pc L (vr (a + 1) :: S) n M = (ob n a = 0 ∧ J O j n0 Q (pc + 3) L (vi (M a 1) :: S) n M) := J_get fe_68 (by rw [hm]) hd
theorem p_68 {O : pO} {j n0 : Nat} {Q : pQ} {pc : Nat} {L : pL} {S : List pv} {n : Nat} {M : pM} {a : Nat} {x : Int} (hm : mO j = 11) (hd : decode (mB j) pc = .ok (.putfield 317, 3)) : J O j n0 Q pc L (vi x :: vr (a + 1) :: S) n M = (ob n a = 0 ∧ J O j n0 Q (pc + 3) L S n (st M a 1 x)) := (J_put (C := True) (x := x) fe_68 (by rw [hm]) (Or.inl rfl) (fun y => by show (vi x = vi y) ↔ _; simp [eq_comm]) hd).trans (by simp only [true_and])
theorem fe_69 : (8, 59, 0, 2, 393, 1) ∈ fldL := by decide +kernel
theorem g_69 {O : pO} {j n0 : Nat} {Q : pQ} {pc : Nat} {L : pL} {S : List pv} {n : Nat} {M : pM} {a : Nat} (hm : mO j = 8) (hd : decode (mB j) pc = .ok (.getfield 59, 3)) : J O j n0 Q pc L (vr (a + 1) :: S) n M = (ob n a = 0 ∧ J O j n0 Q (pc + 3) L (vi (M a 2) :: S) n M) := J_get fe_69 (by rw [hm]) hd
theorem p_69 {O : pO} {j n0 : Nat} {Q : pQ} {pc : Nat} {L : pL} {S : List pv} {n : Nat} {M : pM} {a : Nat} {x : Int} (hm : mO j = 8) (hd : decode (mB j) pc = .ok (.putfield 59, 3)) : J O j n0 Q pc L (vi x :: vr (a + 1) :: S) n M = (ob n a = 0 ∧ J O j n0 Q (pc + 3) L S n (st M a 2 x)) := (J_put (C := True) (x := x) fe_69 (by rw [hm]) (Or.inl rfl) (fun y => by show (vi x = vi y) ↔ _; simp [eq_comm]) hd).trans (by simp only [true_and])
theorem fe_70 : (11, 218, 0, 2, 394, 1) ∈ fldL := by decide +kernel
theorem g_70 {O : pO} {j n0 : Nat} {Q : pQ} {pc : Nat} {L : pL} {S : List pv} {n : Nat} {M : pM} {a : Nat} (hm : mO j = 11) (hd : decode (mB j) pc = .ok (.getfield 218, 3)) : J O j n0 Q pc L (vr (a + 1) :: S) n M = (ob n a = 0 ∧ J O j n0 Q (pc + 3) L (vi (M a 2) :: S) n M) := J_get fe_70 (by rw [hm]) hd
theorem p_70 {O : pO} {j n0 : Nat} {Q : pQ} {pc : Nat} {L : pL} {S : List pv} {n : Nat} {M : pM} {a : Nat} {x : Int} (hm : mO j = 11) (hd : decode (mB j) pc = .ok (.putfield 218, 3)) : J O j n0 Q pc L (vi x :: vr (a + 1) :: S) n M = (ob n a = 0 ∧ J O j n0 Q (pc + 3) L S n (st M a 2 x)) := (J_put (C := True) (x := x) fe_70 (by rw [hm]) (Or.inl rfl) (fun y => by show (vi x = vi y) ↔ _; simp [eq_comm]) hd).trans (by simp only [true_and])
theorem fe_71 : (1, 11, 1, 0, 417, 0) ∈ fldL := by decide +kernel
theorem g_71 {O : pO} {j n0 : Nat} {Q : pQ} {pc : Nat} {L : pL} {S : List pv} {n : Nat} {M : pM} {a : Nat} (hm : mO j = 1) (hd : decode (mB j) pc = .ok (.getfield 11, 3)) : J O j n0 Q pc L (vr (a + 1) :: S) n M = (ob n a = 1 ∧ J O j n0 Q (pc + 3) L (vr (M a 0).toNat :: S) n M) := J_get fe_71 (by rw [hm]) hd
theorem p_71 {O : pO} {j n0 : Nat} {Q : pQ} {pc : Nat} {L : pL} {S : List pv} {n : Nat} {M : pM} {a b : Nat} (hm : mO j = 1) (hi : (mY j).name = "<init>") (hd : decode (mB j) pc = .ok (.putfield 11, 3)) : J O j n0 Q pc L (vr b :: vr (a + 1) :: S) n M = (ob n a = 1 ∧ J O j n0 Q (pc + 3) L S n (st M a 0 (b : Int))) := (J_put (C := True) (x := (b : Int)) fe_71 (by rw [hm]) (Or.inr ⟨hi, hm.symm, rfl⟩) (fun y => by show (∃ k : Nat, vr b = vr k ∧ y = (k : Int)) ↔ _; refine ⟨fun h => ?_, fun h => ⟨b, rfl, h.2⟩⟩; obtain ⟨k, h1, h2⟩ := h; cases h1; exact ⟨trivial, h2⟩) hd).trans (by simp only [true_and])
theorem fe_72 : (1, 15, 1, 1, 418, 0) ∈ fldL := by decide +kernel
theorem g_72 {O : pO} {j n0 : Nat} {Q : pQ} {pc : Nat} {L : pL} {S : List pv} {n : Nat} {M : pM} {a : Nat} (hm : mO j = 1) (hd : decode (mB j) pc = .ok (.getfield 15, 3)) : J O j n0 Q pc L (vr (a + 1) :: S) n M = (ob n a = 1 ∧ J O j n0 Q (pc + 3) L (vr (M a 1).toNat :: S) n M) := J_get fe_72 (by rw [hm]) hd
theorem p_72 {O : pO} {j n0 : Nat} {Q : pQ} {pc : Nat} {L : pL} {S : List pv} {n : Nat} {M : pM} {a b : Nat} (hm : mO j = 1) (hi : (mY j).name = "<init>") (hd : decode (mB j) pc = .ok (.putfield 15, 3)) : J O j n0 Q pc L (vr b :: vr (a + 1) :: S) n M = (ob n a = 1 ∧ J O j n0 Q (pc + 3) L S n (st M a 1 (b : Int))) := (J_put (C := True) (x := (b : Int)) fe_72 (by rw [hm]) (Or.inr ⟨hi, hm.symm, rfl⟩) (fun y => by show (∃ k : Nat, vr b = vr k ∧ y = (k : Int)) ↔ _; refine ⟨fun h => ?_, fun h => ⟨b, rfl, h.2⟩⟩; obtain ⟨k, h1, h2⟩ := h; cases h1; exact ⟨trivial, h2⟩) hd).trans (by simp only [true_and])
theorem fe_73 : (1, 19, 1, 2, 419, 0) ∈ fldL := by decide +kernel
theorem g_73 {O : pO} {j n0 : Nat} {Q : pQ} {pc : Nat} {L : pL} {S : List pv} {n : Nat} {M : pM} {a : Nat} (hm : mO j = 1) (hd : decode (mB j) pc = .ok (.getfield 19, 3)) : J O j n0 Q pc L (vr (a + 1) :: S) n M = (ob n a = 1 ∧ J O j n0 Q (pc + 3) L (vr (M a 2).toNat :: S) n M) := J_get fe_73 (by rw [hm]) hd
theorem p_73 {O : pO} {j n0 : Nat} {Q : pQ} {pc : Nat} {L : pL} {S : List pv} {n : Nat} {M : pM} {a b : Nat} (hm : mO j = 1) (hi : (mY j).name = "<init>") (hd : decode (mB j) pc = .ok (.putfield 19, 3)) : J O j n0 Q pc L (vr b :: vr (a + 1) :: S) n M = (ob n a = 1 ∧ J O j n0 Q (pc + 3) L S n (st M a 2 (b : Int))) := (J_put (C := True) (x := (b : Int)) fe_73 (by rw [hm]) (Or.inr ⟨hi, hm.symm, rfl⟩) (fun y => by show (∃ k : Nat, vr b = vr k ∧ y = (k : Int)) ↔ _; refine ⟨fun h => ?_, fun h => ⟨b, rfl, h.2⟩⟩; obtain ⟨k, h1, h2⟩ := h; cases h1; exact ⟨trivial, h2⟩) hd).trans (by simp only [true_and])
theorem fe_74 : (1, 22, 1, 3, 420, 0) ∈ fldL := by decide +kernel
theorem g_74 {O : pO} {j n0 : Nat} {Q : pQ} {pc : Nat} {L : pL} {S : List pv} {n : Nat} {M : pM} {a : Nat} (hm : mO j = 1) (hd : decode (mB j) pc = .ok (.getfield 22, 3)) : J O j n0 Q pc L (vr (a + 1) :: S) n M = (ob n a = 1 ∧ J O j n0 Q (pc + 3) L (vr (M a 3).toNat :: S) n M) := J_get fe_74 (by rw [hm]) hd
theorem p_74 {O : pO} {j n0 : Nat} {Q : pQ} {pc : Nat} {L : pL} {S : List pv} {n : Nat} {M : pM} {a b : Nat} (hm : mO j = 1) (hi : (mY j).name = "<init>") (hd : decode (mB j) pc = .ok (.putfield 22, 3)) : J O j n0 Q pc L (vr b :: vr (a + 1) :: S) n M = (ob n a = 1 ∧ J O j n0 Q (pc + 3) L S n (st M a 3 (b : Int))) := (J_put (C := True) (x := (b : Int)) fe_74 (by rw [hm]) (Or.inr ⟨hi, hm.symm, rfl⟩) (fun y => by show (∃ k : Nat, vr b = vr k ∧ y = (k : Int)) ↔ _; refine ⟨fun h => ?_, fun h => ⟨b, rfl, h.2⟩⟩; obtain ⟨k, h1, h2⟩ := h; cases h1; exact ⟨trivial, h2⟩) hd).trans (by simp only [true_and])
theorem fe_75 : (11, 182, 1, 3, 421, 1) ∈ fldL := by decide +kernel
theorem g_75 {O : pO} {j n0 : Nat} {Q : pQ} {pc : Nat} {L : pL} {S : List pv} {n : Nat} {M : pM} {a : Nat} (hm : mO j = 11) (hd : decode (mB j) pc = .ok (.getfield 182, 3)) : J O j n0 Q pc L (vr (a + 1) :: S) n M = (ob n a = 1 ∧ J O j n0 Q (pc + 3) L (vr (M a 3).toNat :: S) n M) := J_get fe_75 (by rw [hm]) hd
theorem fe_76 : (1, 28, 1, 4, 422, 0) ∈ fldL := by decide +kernel
theorem g_76 {O : pO} {j n0 : Nat} {Q : pQ} {pc : Nat} {L : pL} {S : List pv} {n : Nat} {M : pM} {a : Nat} (hm : mO j = 1) (hd : decode (mB j) pc = .ok (.getfield 28, 3)) : J O j n0 Q pc L (vr (a + 1) :: S) n M = (ob n a = 1 ∧ J O j n0 Q (pc + 3) L (vr (M a 4).toNat :: S) n M) := J_get fe_76 (by rw [hm]) hd
theorem p_76 {O : pO} {j n0 : Nat} {Q : pQ} {pc : Nat} {L : pL} {S : List pv} {n : Nat} {M : pM} {a b : Nat} (hm : mO j = 1) (hi : (mY j).name = "<init>") (hd : decode (mB j) pc = .ok (.putfield 28, 3)) : J O j n0 Q pc L (vr b :: vr (a + 1) :: S) n M = (ob n a = 1 ∧ J O j n0 Q (pc + 3) L S n (st M a 4 (b : Int))) := (J_put (C := True) (x := (b : Int)) fe_76 (by rw [hm]) (Or.inr ⟨hi, hm.symm, rfl⟩) (fun y => by show (∃ k : Nat, vr b = vr k ∧ y = (k : Int)) ↔ _; refine ⟨fun h => ?_, fun h => ⟨b, rfl, h.2⟩⟩; obtain ⟨k, h1, h2⟩ := h; cases h1; exact ⟨trivial, h2⟩) hd).trans (by simp only [true_and])
theorem fe_77 : (1, 74, 1, 5, 423, 0) ∈ fldL := by decide +kernel
theorem g_77 {O : pO} {j n0 : Nat} {Q : pQ} {pc : Nat} {L : pL} {S : List pv} {n : Nat} {M : pM} {a : Nat} (hm : mO j = 1) (hd : decode (mB j) pc = .ok (.getfield 74, 3)) : J O j n0 Q pc L (vr (a + 1) :: S) n M = (ob n a = 1 ∧ J O j n0 Q (pc + 3) L (vi (M a 5) :: S) n M) := J_get fe_77 (by rw [hm]) hd
theorem p_77 {O : pO} {j n0 : Nat} {Q : pQ} {pc : Nat} {L : pL} {S : List pv} {n : Nat} {M : pM} {a : Nat} {x : Int} (hm : mO j = 1) (hd : decode (mB j) pc = .ok (.putfield 74, 3)) : J O j n0 Q pc L (vi x :: vr (a + 1) :: S) n M = (ob n a = 1 ∧ J O j n0 Q (pc + 3) L S n (st M a 5 x)) := (J_put (C := True) (x := x) fe_77 (by rw [hm]) (Or.inl rfl) (fun y => by show (vi x = vi y) ↔ _; simp [eq_comm]) hd).trans (by simp only [true_and])
theorem fe_78 : (11, 179, 1, 5, 424, 1) ∈ fldL := by decide +kernel
theorem g_78 {O : pO} {j n0 : Nat} {Q : pQ} {pc : Nat} {L : pL} {S : List pv} {n : Nat} {M : pM} {a : Nat} (hm : mO j = 11) (hd : decode (mB j) pc = .ok (.getfield 179, 3)) : J O j n0 Q pc L (vr (a + 1) :: S) n M = (ob n a = 1 ∧ J O j n0 Q (pc + 3) L (vi (M a 5) :: S) n M) := J_get fe_78 (by rw [hm]) hd
theorem p_78 {O : pO} {j n0 : Nat} {Q : pQ} {pc : Nat} {L : pL} {S : List pv} {n : Nat} {M : pM} {a : Nat} {x : Int} (hm : mO j = 11) (hd : decode (mB j) pc = .ok (.putfield 179, 3)) : J O j n0 Q pc L (vi x :: vr (a + 1) :: S) n M = (ob n a = 1 ∧ J O j n0 Q (pc + 3) L S n (st M a 5 x)) := (J_put (C := True) (x := x) fe_78 (by rw [hm]) (Or.inl rfl) (fun y => by show (vi x = vi y) ↔ _; simp [eq_comm]) hd).trans (by simp only [true_and])
theorem fe_79 : (1, 71, 1, 6, 425, 0) ∈ fldL := by decide +kernel
theorem g_79 {O : pO} {j n0 : Nat} {Q : pQ} {pc : Nat} {L : pL} {S : List pv} {n : Nat} {M : pM} {a : Nat} (hm : mO j = 1) (hd : decode (mB j) pc = .ok (.getfield 71, 3)) : J O j n0 Q pc L (vr (a + 1) :: S) n M = (ob n a = 1 ∧ J O j n0 Q (pc + 3) L (vi (M a 6) :: S) n M) := J_get fe_79 (by rw [hm]) hd
theorem p_79 {O : pO} {j n0 : Nat} {Q : pQ} {pc : Nat} {L : pL} {S : List pv} {n : Nat} {M : pM} {a : Nat} {x : Int} (hm : mO j = 1) (hd : decode (mB j) pc = .ok (.putfield 71, 3)) : J O j n0 Q pc L (vi x :: vr (a + 1) :: S) n M = (ob n a = 1 ∧ J O j n0 Q (pc + 3) L S n (st M a 6 x)) := (J_put (C := True) (x := x) fe_79 (by rw [hm]) (Or.inl rfl) (fun y => by show (vi x = vi y) ↔ _; simp [eq_comm]) hd).trans (by simp only [true_and])
theorem fe_80 : (11, 176, 1, 6, 426, 1) ∈ fldL := by decide +kernel
theorem g_80 {O : pO} {j n0 : Nat} {Q : pQ} {pc : Nat} {L : pL} {S : List pv} {n : Nat} {M : pM} {a : Nat} (hm : mO j = 11) (hd : decode (mB j) pc = .ok (.getfield 176, 3)) : J O j n0 Q pc L (vr (a + 1) :: S) n M = (ob n a = 1 ∧ J O j n0 Q (pc + 3) L (vi (M a 6) :: S) n M) := J_get fe_80 (by rw [hm]) hd
theorem p_80 {O : pO} {j n0 : Nat} {Q : pQ} {pc : Nat} {L : pL} {S : List pv} {n : Nat} {M : pM} {a : Nat} {x : Int} (hm : mO j = 11) (hd : decode (mB j) pc = .ok (.putfield 176, 3)) : J O j n0 Q pc L (vi x :: vr (a + 1) :: S) n M = (ob n a = 1 ∧ J O j n0 Q (pc + 3) L S n (st M a 6 x)) := (J_put (C := True) (x := x) fe_80 (by rw [hm]) (Or.inl rfl) (fun y => by show (vi x = vi y) ↔ _; simp [eq_comm]) hd).trans (by simp only [true_and])
theorem fe_81 : (1, 32, 1, 7, 427, 0) ∈ fldL := by decide +kernel
theorem g_81 {O : pO} {j n0 : Nat} {Q : pQ} {pc : Nat} {L : pL} {S : List pv} {n : Nat} {M : pM} {a : Nat} (hm : mO j = 1) (hd : decode (mB j) pc = .ok (.getfield 32, 3)) : J O j n0 Q pc L (vr (a + 1) :: S) n M = (ob n a = 1 ∧ J O j n0 Q (pc + 3) L (vr (M a 7).toNat :: S) n M) := J_get fe_81 (by rw [hm]) hd
theorem p_81 {O : pO} {j n0 : Nat} {Q : pQ} {pc : Nat} {L : pL} {S : List pv} {n : Nat} {M : pM} {a b : Nat} (hm : mO j = 1) (hd : decode (mB j) pc = .ok (.putfield 32, 3)) : J O j n0 Q pc L (vr b :: vr (a + 1) :: S) n M = (ob n a = 1 ∧ J O j n0 Q (pc + 3) L S n (st M a 7 (b : Int))) := (J_put (C := True) (x := (b : Int)) fe_81 (by rw [hm]) (Or.inl rfl) (fun y => by show (∃ k : Nat, vr b = vr k ∧ y = (k : Int)) ↔ _; refine ⟨fun h => ?_, fun h => ⟨b, rfl, h.2⟩⟩; obtain ⟨k, h1, h2⟩ := h; cases h1; exact ⟨trivial, h2⟩) hd).trans (by simp only [true_and])
theorem fe_82 : (1, 36, 1, 8, 428, 0) ∈ fldL := by decide +kernel
theorem g_82 {O : pO} {j n0 : Nat} {Q : pQ} {pc : Nat} {L : pL} {S : List pv} {n : Nat} {M : pM} {a : Nat} (hm : mO j = 1) (hd : decode (mB j) pc = .ok (.getfield 36, 3)) : J O j n0 Q pc L (vr (a + 1) :: S) n M = (ob n a = 1 ∧ J O j n0 Q (pc + 3) L (vr (M a 8).toNat :: S) n M) := J_get fe_82 (by rw [hm]) hd
theorem p_82 {O : pO} {j n0 : Nat} {Q : pQ} {pc : Nat} {L : pL} {S : List pv} {n : Nat} {M : pM} {a b : Nat} (hm : mO j = 1) (hd : decode (mB j) pc = .ok (.putfield 36, 3)) : J O j n0 Q pc L (vr b :: vr (a + 1) :: S) n M = (ob n a = 1 ∧ J O j n0 Q (pc + 3) L S n (st M a 8 (b : Int))) := (J_put (C := True) (x := (b : Int)) fe_82 (by rw [hm]) (Or.inl rfl) (fun y => by show (∃ k : Nat, vr b = vr k ∧ y = (k : Int)) ↔ _; refine ⟨fun h => ?_, fun h => ⟨b, rfl, h.2⟩⟩; obtain ⟨k, h1, h2⟩ := h; cases h1; exact ⟨trivial, h2⟩) hd).trans (by simp only [true_and])
theorem fe_83 : (1, 146, 1, 9, 429, 0) ∈ fldL := by decide +kernel
theorem g_83 {O : pO} {j n0 : Nat} {Q : pQ} {pc : Nat} {L : pL} {S : List pv} {n : Nat} {M : pM} {a : Nat} (hm : mO j = 1) (hd : decode (mB j) pc = .ok (.getfield 146, 3)) : J O j n0 Q pc L (vr (a + 1) :: S) n M = (ob n a = 1 ∧ J O j n0 Q (pc + 3) L (vi (M a 9) :: S) n M) := J_get fe_83 (by rw [hm]) hd
theorem p_83 {O : pO} {j n0 : Nat} {Q : pQ} {pc : Nat} {L : pL} {S : List pv} {n : Nat} {M : pM} {a : Nat} {x : Int} (hm : mO j = 1) (hd : decode (mB j) pc = .ok (.putfield 146, 3)) : J O j n0 Q pc L (vi x :: vr (a + 1) :: S) n M = (ob n a = 1 ∧ J O j n0 Q (pc + 3) L S n (st M a 9 x)) := (J_put (C := True) (x := x) fe_83 (by rw [hm]) (Or.inl rfl) (fun y => by show (vi x = vi y) ↔ _; simp [eq_comm]) hd).trans (by simp only [true_and])
theorem fe_84 : (1, 139, 1, 10, 430, 0) ∈ fldL := by decide +kernel
theorem g_84 {O : pO} {j n0 : Nat} {Q : pQ} {pc : Nat} {L : pL} {S : List pv} {n : Nat} {M : pM} {a : Nat} (hm : mO j = 1) (hd : decode (mB j) pc = .ok (.getfield 139, 3)) : J O j n0 Q pc L (vr (a + 1) :: S) n M = (ob n a = 1 ∧ J O j n0 Q (pc + 3) L (vi (M a 10) :: S) n M) := J_get fe_84 (by rw [hm]) hd
theorem p_84 {O : pO} {j n0 : Nat} {Q : pQ} {pc : Nat} {L : pL} {S : List pv} {n : Nat} {M : pM} {a : Nat} {x : Int} (hm : mO j = 1) (hd : decode (mB j) pc = .ok (.putfield 139, 3)) : J O j n0 Q pc L (vi x :: vr (a + 1) :: S) n M = (ob n a = 1 ∧ J O j n0 Q (pc + 3) L S n (st M a 10 x)) := (J_put (C := True) (x := x) fe_84 (by rw [hm]) (Or.inl rfl) (fun y => by show (vi x = vi y) ↔ _; simp [eq_comm]) hd).trans (by simp only [true_and])
theorem fe_85 : (1, 43, 1, 11, 431, 0) ∈ fldL := by decide +kernel
theorem g_85 {O : pO} {j n0 : Nat} {Q : pQ} {pc : Nat} {L : pL} {S : List pv} {n : Nat} {M : pM} {a : Nat} (hm : mO j = 1) (hd : decode (mB j) pc = .ok (.getfield 43, 3)) : J O j n0 Q pc L (vr (a + 1) :: S) n M = (ob n a = 1 ∧ J O j n0 Q (pc + 3) L (vi (M a 11) :: S) n M) := J_get fe_85 (by rw [hm]) hd
theorem p_85 {O : pO} {j n0 : Nat} {Q : pQ} {pc : Nat} {L : pL} {S : List pv} {n : Nat} {M : pM} {a : Nat} {x : Int} (hm : mO j = 1) (hd : decode (mB j) pc = .ok (.putfield 43, 3)) : J O j n0 Q pc L (vi x :: vr (a + 1) :: S) n M = (ob n a = 1 ∧ (x = 0 ∨ x = 1) ∧ J O j n0 Q (pc + 3) L S n (st M a 11 x)) := J_put fe_85 (by rw [hm]) (Or.inl rfl) (fun y => utz) hd
theorem fe_86 : (1, 47, 1, 12, 432, 0) ∈ fldL := by decide +kernel
theorem g_86 {O : pO} {j n0 : Nat} {Q : pQ} {pc : Nat} {L : pL} {S : List pv} {n : Nat} {M : pM} {a : Nat} (hm : mO j = 1) (hd : decode (mB j) pc = .ok (.getfield 47, 3)) : J O j n0 Q pc L (vr (a + 1) :: S) n M = (ob n a = 1 ∧ J O j n0 Q (pc + 3) L (vi (M a 12) :: S) n M) := J_get fe_86 (by rw [hm]) hd
theorem p_86 {O : pO} {j n0 : Nat} {Q : pQ} {pc : Nat} {L : pL} {S : List pv} {n : Nat} {M : pM} {a : Nat} {x : Int} (hm : mO j = 1) (hd : decode (mB j) pc = .ok (.putfield 47, 3)) : J O j n0 Q pc L (vi x :: vr (a + 1) :: S) n M = (ob n a = 1 ∧ J O j n0 Q (pc + 3) L S n (st M a 12 x)) := (J_put (C := True) (x := x) fe_86 (by rw [hm]) (Or.inl rfl) (fun y => by show (vi x = vi y) ↔ _; simp [eq_comm]) hd).trans (by simp only [true_and])
theorem fe_87 : (1, 51, 1, 13, 433, 0) ∈ fldL := by decide +kernel
theorem g_87 {O : pO} {j n0 : Nat} {Q : pQ} {pc : Nat} {L : pL} {S : List pv} {n : Nat} {M : pM} {a : Nat} (hm : mO j = 1) (hd : decode (mB j) pc = .ok (.getfield 51, 3)) : J O j n0 Q pc L (vr (a + 1) :: S) n M = (ob n a = 1 ∧ J O j n0 Q (pc + 3) L (vi (M a 13) :: S) n M) := J_get fe_87 (by rw [hm]) hd
theorem p_87 {O : pO} {j n0 : Nat} {Q : pQ} {pc : Nat} {L : pL} {S : List pv} {n : Nat} {M : pM} {a : Nat} {x : Int} (hm : mO j = 1) (hd : decode (mB j) pc = .ok (.putfield 51, 3)) : J O j n0 Q pc L (vi x :: vr (a + 1) :: S) n M = (ob n a = 1 ∧ J O j n0 Q (pc + 3) L S n (st M a 13 x)) := (J_put (C := True) (x := x) fe_87 (by rw [hm]) (Or.inl rfl) (fun y => by show (vi x = vi y) ↔ _; simp [eq_comm]) hd).trans (by simp only [true_and])
theorem fe_88 : (1, 54, 1, 14, 434, 0) ∈ fldL := by decide +kernel
theorem g_88 {O : pO} {j n0 : Nat} {Q : pQ} {pc : Nat} {L : pL} {S : List pv} {n : Nat} {M : pM} {a : Nat} (hm : mO j = 1) (hd : decode (mB j) pc = .ok (.getfield 54, 3)) : J O j n0 Q pc L (vr (a + 1) :: S) n M = (ob n a = 1 ∧ J O j n0 Q (pc + 3) L (vi (M a 14) :: S) n M) := J_get fe_88 (by rw [hm]) hd
theorem p_88 {O : pO} {j n0 : Nat} {Q : pQ} {pc : Nat} {L : pL} {S : List pv} {n : Nat} {M : pM} {a : Nat} {x : Int} (hm : mO j = 1) (hd : decode (mB j) pc = .ok (.putfield 54, 3)) : J O j n0 Q pc L (vi x :: vr (a + 1) :: S) n M = (ob n a = 1 ∧ J O j n0 Q (pc + 3) L S n (st M a 14 x)) := (J_put (C := True) (x := x) fe_88 (by rw [hm]) (Or.inl rfl) (fun y => by show (vi x = vi y) ↔ _; simp [eq_comm]) hd).trans (by simp only [true_and])
theorem fe_89 : (1, 57, 1, 15, 435, 0) ∈ fldL := by decide +kernel
theorem g_89 {O : pO} {j n0 : Nat} {Q : pQ} {pc : Nat} {L : pL} {S : List pv} {n : Nat} {M : pM} {a : Nat} (hm : mO j = 1) (hd : decode (mB j) pc = .ok (.getfield 57, 3)) : J O j n0 Q pc L (vr (a + 1) :: S) n M = (ob n a = 1 ∧ J O j n0 Q (pc + 3) L (vi (M a 15) :: S) n M) := J_get fe_89 (by rw [hm]) hd
theorem p_89 {O : pO} {j n0 : Nat} {Q : pQ} {pc : Nat} {L : pL} {S : List pv} {n : Nat} {M : pM} {a : Nat} {x : Int} (hm : mO j = 1) (hd : decode (mB j) pc = .ok (.putfield 57, 3)) : J O j n0 Q pc L (vi x :: vr (a + 1) :: S) n M = (ob n a = 1 ∧ J O j n0 Q (pc + 3) L S n (st M a 15 x)) := (J_put (C := True) (x := x) fe_89 (by rw [hm]) (Or.inl rfl) (fun y => by show (vi x = vi y) ↔ _; simp [eq_comm]) hd).trans (by simp only [true_and])
theorem fe_90 : (1, 60, 1, 16, 436, 0) ∈ fldL := by decide +kernel
theorem g_90 {O : pO} {j n0 : Nat} {Q : pQ} {pc : Nat} {L : pL} {S : List pv} {n : Nat} {M : pM} {a : Nat} (hm : mO j = 1) (hd : decode (mB j) pc = .ok (.getfield 60, 3)) : J O j n0 Q pc L (vr (a + 1) :: S) n M = (ob n a = 1 ∧ J O j n0 Q (pc + 3) L (vi (M a 16) :: S) n M) := J_get fe_90 (by rw [hm]) hd
theorem p_90 {O : pO} {j n0 : Nat} {Q : pQ} {pc : Nat} {L : pL} {S : List pv} {n : Nat} {M : pM} {a : Nat} {x : Int} (hm : mO j = 1) (hd : decode (mB j) pc = .ok (.putfield 60, 3)) : J O j n0 Q pc L (vi x :: vr (a + 1) :: S) n M = (ob n a = 1 ∧ J O j n0 Q (pc + 3) L S n (st M a 16 x)) := (J_put (C := True) (x := x) fe_90 (by rw [hm]) (Or.inl rfl) (fun y => by show (vi x = vi y) ↔ _; simp [eq_comm]) hd).trans (by simp only [true_and])
theorem fe_91 : (2, 9, 2, 0, 478, 0) ∈ fldL := by decide +kernel
theorem g_91 {O : pO} {j n0 : Nat} {Q : pQ} {pc : Nat} {L : pL} {S : List pv} {n : Nat} {M : pM} {a : Nat} (hm : mO j = 2) (hd : decode (mB j) pc = .ok (.getfield 9, 3)) : J O j n0 Q pc L (vr (a + 1) :: S) n M = (ob n a = 2 ∧ J O j n0 Q (pc + 3) L (vi (M a 0) :: S) n M) := J_get fe_91 (by rw [hm]) hd
theorem p_91 {O : pO} {j n0 : Nat} {Q : pQ} {pc : Nat} {L : pL} {S : List pv} {n : Nat} {M : pM} {a : Nat} {x : Int} (hm : mO j = 2) (hd : decode (mB j) pc = .ok (.putfield 9, 3)) : J O j n0 Q pc L (vi x :: vr (a + 1) :: S) n M = (ob n a = 2 ∧ J O j n0 Q (pc + 3) L S n (st M a 0 x)) := (J_put (C := True) (x := x) fe_91 (by rw [hm]) (Or.inl rfl) (fun y => by show (vi x = vi y) ↔ _; simp [eq_comm]) hd).trans (by simp only [true_and])
theorem fe_92 : (2, 15, 2, 1, 479, 0) ∈ fldL := by decide +kernel
theorem g_92 {O : pO} {j n0 : Nat} {Q : pQ} {pc : Nat} {L : pL} {S : List pv} {n : Nat} {M : pM} {a : Nat} (hm : mO j = 2) (hd : decode (mB j) pc = .ok (.getfield 15, 3)) : J O j n0 Q pc L (vr (a + 1) :: S) n M = (ob n a = 2 ∧ J O j n0 Q (pc + 3) L (vi (M a 1) :: S) n M) := J_get fe_92 (by rw [hm]) hd
theorem p_92 {O : pO} {j n0 : Nat} {Q : pQ} {pc : Nat} {L : pL} {S : List pv} {n : Nat} {M : pM} {a : Nat} {x : Int} (hm : mO j = 2) (hd : decode (mB j) pc = .ok (.putfield 15, 3)) : J O j n0 Q pc L (vi x :: vr (a + 1) :: S) n M = (ob n a = 2 ∧ J O j n0 Q (pc + 3) L S n (st M a 1 x)) := (J_put (C := True) (x := x) fe_92 (by rw [hm]) (Or.inl rfl) (fun y => by show (vi x = vi y) ↔ _; simp [eq_comm]) hd).trans (by simp only [true_and])
theorem fe_93 : (2, 18, 2, 2, 480, 0) ∈ fldL := by decide +kernel
theorem g_93 {O : pO} {j n0 : Nat} {Q : pQ} {pc : Nat} {L : pL} {S : List pv} {n : Nat} {M : pM} {a : Nat} (hm : mO j = 2) (hd : decode (mB j) pc = .ok (.getfield 18, 3)) : J O j n0 Q pc L (vr (a + 1) :: S) n M = (ob n a = 2 ∧ J O j n0 Q (pc + 3) L (vi (M a 2) :: S) n M) := J_get fe_93 (by rw [hm]) hd
theorem p_93 {O : pO} {j n0 : Nat} {Q : pQ} {pc : Nat} {L : pL} {S : List pv} {n : Nat} {M : pM} {a : Nat} {x : Int} (hm : mO j = 2) (hd : decode (mB j) pc = .ok (.putfield 18, 3)) : J O j n0 Q pc L (vi x :: vr (a + 1) :: S) n M = (ob n a = 2 ∧ J O j n0 Q (pc + 3) L S n (st M a 2 x)) := (J_put (C := True) (x := x) fe_93 (by rw [hm]) (Or.inl rfl) (fun y => by show (vi x = vi y) ↔ _; simp [eq_comm]) hd).trans (by simp only [true_and])
theorem fe_94 : (2, 38, 2, 3, 481, 0) ∈ fldL := by decide +kernel
theorem g_94 {O : pO} {j n0 : Nat} {Q : pQ} {pc : Nat} {L : pL} {S : List pv} {n : Nat} {M : pM} {a : Nat} (hm : mO j = 2) (hd : decode (mB j) pc = .ok (.getfield 38, 3)) : J O j n0 Q pc L (vr (a + 1) :: S) n M = (ob n a = 2 ∧ J O j n0 Q (pc + 3) L (vi (M a 3) :: S) n M) := J_get fe_94 (by rw [hm]) hd
theorem p_94 {O : pO} {j n0 : Nat} {Q : pQ} {pc : Nat} {L : pL} {S : List pv} {n : Nat} {M : pM} {a : Nat} {x : Int} (hm : mO j = 2) (hd : decode (mB j) pc = .ok (.putfield 38, 3)) : J O j n0 Q pc L (vi x :: vr (a + 1) :: S) n M = (ob n a = 2 ∧ J O j n0 Q (pc + 3) L S n (st M a 3 x)) := (J_put (C := True) (x := x) fe_94 (by rw [hm]) (Or.inl rfl) (fun y => by show (vi x = vi y) ↔ _; simp [eq_comm]) hd).trans (by simp only [true_and])
theorem fe_95 : (2, 21, 2, 4, 482, 0) ∈ fldL := by decide +kernel
theorem g_95 {O : pO} {j n0 : Nat} {Q : pQ} {pc : Nat} {L : pL} {S : List pv} {n : Nat} {M : pM} {a : Nat} (hm : mO j = 2) (hd : decode (mB j) pc = .ok (.getfield 21, 3)) : J O j n0 Q pc L (vr (a + 1) :: S) n M = (ob n a = 2 ∧ J O j n0 Q (pc + 3) L (vr (M a 4).toNat :: S) n M) := J_get fe_95 (by rw [hm]) hd
theorem p_95 {O : pO} {j n0 : Nat} {Q : pQ} {pc : Nat} {L : pL} {S : List pv} {n : Nat} {M : pM} {a b : Nat} (hm : mO j = 2) (hi : (mY j).name = "<init>") (hd : decode (mB j) pc = .ok (.putfield 21, 3)) : J O j n0 Q pc L (vr b :: vr (a + 1) :: S) n M = (ob n a = 2 ∧ J O j n0 Q (pc + 3) L S n (st M a 4 (b : Int))) := (J_put (C := True) (x := (b : Int)) fe_95 (by rw [hm]) (Or.inr ⟨hi, hm.symm, rfl⟩) (fun y => by show (∃ k : Nat, vr b = vr k ∧ y = (k : Int)) ↔ _; refine ⟨fun h => ?_, fun h => ⟨b, rfl, h.2⟩⟩; obtain ⟨k, h1, h2⟩ := h; cases h1; exact ⟨trivial, h2⟩) hd).trans (by simp only [true_and])
theorem fe_96 : (2, 25, 2, 5, 483, 0) ∈ fldL := by decide +kernel
theorem g_96 {O : pO} {j n0 : Nat} {Q : pQ} {pc : Nat} {L : pL} {S : List pv} {n : Nat} {M : pM} {a : Nat} (hm : mO j = 2) (hd : decode (mB j) pc = .ok (.getfield 25, 3)) : J O j n0 Q pc L (vr (a + 1) :: S) n M = (ob n a = 2 ∧ J O j n0 Q (pc + 3) L (vr (M a 5).toNat :: S) n M) := J_get fe_96 (by rw [hm]) hd
theorem p_96 {O : pO} {j n0 : Nat} {Q : pQ} {pc : Nat} {L : pL} {S : List pv} {n : Nat} {M : pM} {a b : Nat} (hm : mO j = 2) (hi : (mY j).name = "<init>") (hd : decode (mB j) pc = .ok (.putfield 25, 3)) : J O j n0 Q pc L (vr b :: vr (a + 1) :: S) n M = (ob n a = 2 ∧ J O j n0 Q (pc + 3) L S n (st M a 5 (b : Int))) := (J_put (C := True) (x := (b : Int)) fe_96 (by rw [hm]) (Or.inr ⟨hi, hm.symm, rfl⟩) (fun y => by show (∃ k : Nat, vr b = vr k ∧ y = (k : Int)) ↔ _; refine ⟨fun h => ?_, fun h => ⟨b, rfl, h.2⟩⟩; obtain ⟨k, h1, h2⟩ := h; cases h1; exact ⟨trivial, h2⟩) hd).trans (by simp only [true_and])
theorem fe_97 : (2, 28, 2, 6, 484, 0) ∈ fldL := by decide +kernel
theorem g_97 {O : pO} {j n0 : Nat} {Q : pQ} {pc : Nat} {L : pL} {S : List pv} {n : Nat} {M : pM} {a : Nat} (hm : mO j = 2) (hd : decode (mB j) pc = .ok (.getfield 28, 3)) : J O j n0 Q pc L (vr (a + 1) :: S) n M = (ob n a = 2 ∧ J O j n0 Q (pc + 3) L (vr (M a 6).toNat :: S) n M) := J_get fe_97 (by rw [hm]) hd
theorem p_97 {O : pO} {j n0 : Nat} {Q : pQ} {pc : Nat} {L : pL} {S : List pv} {n : Nat} {M : pM} {a b : Nat} (hm : mO j = 2) (hi : (mY j).name = "<init>") (hd : decode (mB j) pc = .ok (.putfield 28, 3)) : J O j n0 Q pc L (vr b :: vr (a + 1) :: S) n M = (ob n a = 2 ∧ J O j n0 Q (pc + 3) L S n (st M a 6 (b : Int))) := (J_put (C := True) (x := (b : Int)) fe_97 (by rw [hm]) (Or.inr ⟨hi, hm.symm, rfl⟩) (fun y => by show (∃ k : Nat, vr b = vr k ∧ y = (k : Int)) ↔ _; refine ⟨fun h => ?_, fun h => ⟨b, rfl, h.2⟩⟩; obtain ⟨k, h1, h2⟩ := h; cases h1; exact ⟨trivial, h2⟩) hd).trans (by simp only [true_and])
theorem fe_98 : (2, 31, 2, 7, 485, 0) ∈ fldL := by decide +kernel
theorem g_98 {O : pO} {j n0 : Nat} {Q : pQ} {pc : Nat} {L : pL} {S : List pv} {n : Nat} {M : pM} {a : Nat} (hm : mO j = 2) (hd : decode (mB j) pc = .ok (.getfield 31, 3)) : J O j n0 Q pc L (vr (a + 1) :: S) n M = (ob n a = 2 ∧ J O j n0 Q (pc + 3) L (vr (M a 7).toNat :: S) n M) := J_get fe_98 (by rw [hm]) hd
theorem p_98 {O : pO} {j n0 : Nat} {Q : pQ} {pc : Nat} {L : pL} {S : List pv} {n : Nat} {M : pM} {a b : Nat} (hm : mO j = 2) (hi : (mY j).name = "<init>") (hd : decode (mB j) pc = .ok (.putfield 31, 3)) : J O j n0 Q pc L (vr b :: vr (a + 1) :: S) n M = (ob n a = 2 ∧ J O j n0 Q (pc + 3) L S n (st M a 7 (b : Int))) := (J_put (C := True) (x := (b : Int)) fe_98 (by rw [hm]) (Or.inr ⟨hi, hm.symm, rfl⟩) (fun y => by show (∃ k : Nat, vr b = vr k ∧ y = (k : Int)) ↔ _; refine ⟨fun h => ?_, fun h => ⟨b, rfl, h.2⟩⟩; obtain ⟨k, h1, h2⟩ := h; cases h1; exact ⟨trivial, h2⟩) hd).trans (by simp only [true_and])
theorem fe_99 : (2, 47, 2, 8, 486, 0) ∈ fldL := by decide +kernel
theorem g_99 {O : pO} {j n0 : Nat} {Q : pQ} {pc : Nat} {L : pL} {S : List pv} {n : Nat} {M : pM} {a : Nat} (hm : mO j = 2) (hd : decode (mB j) pc = .ok (.getfield 47, 3)) : J O j n0 Q pc L (vr (a + 1) :: S) n M = (ob n a = 2 ∧ J O j n0 Q (pc + 3) L (vi (M a 8) :: S) n M) := J_get fe_99 (by rw [hm]) hd
theorem p_99 {O : pO} {j n0 : Nat} {Q : pQ} {pc : Nat} {L : pL} {S : List pv} {n : Nat} {M : pM} {a : Nat} {x : Int} (hm : mO j = 2) (hd : decode (mB j) pc = .ok (.putfield 47, 3)) : J O j n0 Q pc L (vi x :: vr (a + 1) :: S) n M = (ob n a = 2 ∧ J O j n0 Q (pc + 3) L S n (st M a 8 x)) := (J_put (C := True) (x := x) fe_99 (by rw [hm]) (Or.inl rfl) (fun y => by show (vi x = vi y) ↔ _; simp [eq_comm]) hd).trans (by simp only [true_and])
theorem fe_100 : (11, 316, 2, 8, 487, 1) ∈ fldL := by decide +kernel
theorem g_100 {O : pO} {j n0 : Nat} {Q : pQ} {pc : Nat} {L : pL} {S : List pv} {n : Nat} {M : pM} {a : Nat} (hm : mO j = 11) (hd : decode (mB j) pc = .ok (.getfield 316, 3)) : J O j n0 Q pc L (vr (a + 1) :: S) n M = (ob n a = 2 ∧ J O j n0 Q (pc + 3) L (vi (M a 8) :: S) n M) := J_get fe_100 (by rw [hm]) hd
theorem p_100 {O : pO} {j n0 : Nat} {Q : pQ} {pc : Nat} {L : pL} {S : List pv} {n : Nat} {M : pM} {a : Nat} {x : Int} (hm : mO j = 11) (hd : decode (mB j) pc = .ok (.putfield 316, 3)) : J O j n0 Q pc L (vi x :: vr (a + 1) :: S) n M = (ob n a = 2 ∧ J O j n0 Q (pc + 3) L S n (st M a 8 x)) := (J_put (C := True) (x := x) fe_100 (by rw [hm]) (Or.inl rfl) (fun y => by show (vi x = vi y) ↔ _; simp [eq_comm]) hd).trans (by simp only [true_and])
theorem fe_101 : (9, 9, 9, 0, 513, 0) ∈ fldL := by decide +kernel
theorem g_101 {O : pO} {j n0 : Nat} {Q : pQ} {pc : Nat} {L : pL} {S : List pv} {n : Nat} {M : pM} {a : Nat} (hm : mO j = 9) (hd : decode (mB j) pc = .ok (.getfield 9, 3)) : J O j n0 Q pc L (vr (a + 1) :: S) n M = (ob n a = 9 ∧ J O j n0 Q (pc + 3) L (vr (M a 0).toNat :: S) n M) := J_get fe_101 (by rw [hm]) hd
theorem p_101 {O : pO} {j n0 : Nat} {Q : pQ} {pc : Nat} {L : pL} {S : List pv} {n : Nat} {M : pM} {a b : Nat} (hm : mO j = 9) (hi : (mY j).name = "<init>") (hd : decode (mB j) pc = .ok (.putfield 9, 3)) : J O j n0 Q pc L (vr b :: vr (a + 1) :: S) n M = (ob n a = 9 ∧ J O j n0 Q (pc + 3) L S n (st M a 0 (b : Int))) := (J_put (C := True) (x := (b : Int)) fe_101 (by rw [hm]) (Or.inr ⟨hi, hm.symm, rfl⟩) (fun y => by show (∃ k : Nat, vr b = vr k ∧ y = (k : Int)) ↔ _; refine ⟨fun h => ?_, fun h => ⟨b, rfl, h.2⟩⟩; obtain ⟨k, h1, h2⟩ := h; cases h1; exact ⟨trivial, h2⟩) hd).trans (by simp only [true_and])
theorem fe_102 : (6, 54, 9, 0, 514, 1) ∈ fldL := by decide +kernel
theorem g_102 {O : pO} {j n0 : Nat} {Q : pQ} {pc : Nat} {L : pL} {S : List pv} {n : Nat} {M : pM} {a : Nat} (hm : mO j = 6) (hd : decode (mB j) pc = .ok (.getfield 54, 3)) : J O j n0 Q pc L (vr (a + 1) :: S) n M = (ob n a = 9 ∧ J O j n0 Q (pc + 3) L (vr (M a 0).toNat :: S) n M) := J_get fe_102 (by rw [hm]) hd
theorem fe_103 : (9, 33, 9, 1, 515, 0) ∈ fldL := by decide +kernel
theorem g_103 {O : pO} {j n0 : Nat} {Q : pQ} {pc : Nat} {L : pL} {S : List pv} {n : Nat} {M : pM} {a : Nat} (hm : mO j = 9) (hd : decode (mB j) pc = .ok (.getfield 33, 3)) : J O j n0 Q pc L (vr (a + 1) :: S) n M = (ob n a = 9 ∧ J O j n0 Q (pc + 3) L (vi (M a 1) :: S) n M) := J_get fe_103 (by rw [hm]) hd
theorem p_103 {O : pO} {j n0 : Nat} {Q : pQ} {pc : Nat} {L : pL} {S : List pv} {n : Nat} {M : pM} {a : Nat} {x : Int} (hm : mO j = 9) (hd : decode (mB j) pc = .ok (.putfield 33, 3)) : J O j n0 Q pc L (vi x :: vr (a + 1) :: S) n M = (ob n a = 9 ∧ J O j n0 Q (pc + 3) L S n (st M a 1 x)) := (J_put (C := True) (x := x) fe_103 (by rw [hm]) (Or.inl rfl) (fun y => by show (vi x = vi y) ↔ _; simp [eq_comm]) hd).trans (by simp only [true_and])
theorem fe_104 : (6, 15, 9, 1, 516, 1) ∈ fldL := by decide +kernel
theorem g_104 {O : pO} {j n0 : Nat} {Q : pQ} {pc : Nat} {L : pL} {S : List pv} {n : Nat} {M : pM} {a : Nat} (hm : mO j = 6) (hd : decode (mB j) pc = .ok (.getfield 15, 3)) : J O j n0 Q pc L (vr (a + 1) :: S) n M = (ob n a = 9 ∧ J O j n0 Q (pc + 3) L (vi (M a 1) :: S) n M) := J_get fe_104 (by rw [hm]) hd
theorem p_104 {O : pO} {j n0 : Nat} {Q : pQ} {pc : Nat} {L : pL} {S : List pv} {n : Nat} {M : pM} {a : Nat} {x : Int} (hm : mO j = 6) (hd : decode (mB j) pc = .ok (.putfield 15, 3)) : J O j n0 Q pc L (vi x :: vr (a + 1) :: S) n M = (ob n a = 9 ∧ J O j n0 Q (pc + 3) L S n (st M a 1 x)) := (J_put (C := True) (x := x) fe_104 (by rw [hm]) (Or.inl rfl) (fun y => by show (vi x = vi y) ↔ _; simp [eq_comm]) hd).trans (by simp only [true_and])
theorem fe_105 : (11, 266, 9, 1, 517, 1) ∈ fldL := by decide +kernel
theorem g_105 {O : pO} {j n0 : Nat} {Q : pQ} {pc : Nat} {L : pL} {S : List pv} {n : Nat} {M : pM} {a : Nat} (hm : mO j = 11) (hd : decode (mB j) pc = .ok (.getfield 266, 3)) : J O j n0 Q pc L (vr (a + 1) :: S) n M = (ob n a = 9 ∧ J O j n0 Q (pc + 3) L (vi (M a 1) :: S) n M) := J_get fe_105 (by rw [hm]) hd
theorem p_105 {O : pO} {j n0 : Nat} {Q : pQ} {pc : Nat} {L : pL} {S : List pv} {n : Nat} {M : pM} {a : Nat} {x : Int} (hm : mO j = 11) (hd : decode (mB j) pc = .ok (.putfield 266, 3)) : J O j n0 Q pc L (vi x :: vr (a + 1) :: S) n M = (ob n a = 9 ∧ J O j n0 Q (pc + 3) L S n (st M a 1 x)) := (J_put (C := True) (x := x) fe_105 (by rw [hm]) (Or.inl rfl) (fun y => by show (vi x = vi y) ↔ _; simp [eq_comm]) hd).trans (by simp only [true_and])
theorem fe_106 : (9, 15, 9, 2, 518, 0) ∈ fldL := by decide +kernel
theorem g_106 {O : pO} {j n0 : Nat} {Q : pQ} {pc : Nat} {L : pL} {S : List pv} {n : Nat} {M : pM} {a : Nat} (hm : mO j = 9) (hd : decode (mB j) pc = .ok (.getfield 15, 3)) : J O j n0 Q pc L (vr (a + 1) :: S) n M = (ob n a = 9 ∧ J O j n0 Q (pc + 3) L (vr (M a 2).toNat :: S) n M) := J_get fe_106 (by rw [hm]) hd
theorem p_106 {O : pO} {j n0 : Nat} {Q : pQ} {pc : Nat} {L : pL} {S : List pv} {n : Nat} {M : pM} {a b : Nat} (hm : mO j = 9) (hi : (mY j).name = "<init>") (hd : decode (mB j) pc = .ok (.putfield 15, 3)) : J O j n0 Q pc L (vr b :: vr (a + 1) :: S) n M = (ob n a = 9 ∧ J O j n0 Q (pc + 3) L S n (st M a 2 (b : Int))) := (J_put (C := True) (x := (b : Int)) fe_106 (by rw [hm]) (Or.inr ⟨hi, hm.symm, rfl⟩) (fun y => by show (∃ k : Nat, vr b = vr k ∧ y = (k : Int)) ↔ _; refine ⟨fun h => ?_, fun h => ⟨b, rfl, h.2⟩⟩; obtain ⟨k, h1, h2⟩ := h; cases h1; exact ⟨trivial, h2⟩) hd).trans (by simp only [true_and])
theorem fe_107 : (8, 36, 9, 2, 519, 1) ∈ fldL := by decide +kernel
theorem g_107 {O : pO} {j n0 : Nat} {Q : pQ} {pc : Nat} {L : pL} {S : List pv} {n : Nat} {M : pM} {a : Nat} (hm : mO j = 8) (hd : decode (mB j) pc = .ok (.getfield 36, 3)) : J O j n0 Q pc L (vr (a + 1) :: S) n M = (ob n a = 9 ∧ J O j n0 Q (pc + 3) L (vr (M a 2).toNat :: S) n M) := J_get fe_107 (by rw [hm]) hd
theorem fe_108 : (9, 18, 9, 3, 520, 0) ∈ fldL := by decide +kernel
theorem g_108 {O : pO} {j n0 : Nat} {Q : pQ} {pc : Nat} {L : pL} {S : List pv} {n : Nat} {M : pM} {a : Nat} (hm : mO j = 9) (hd : decode (mB j) pc = .ok (.getfield 18, 3)) : J O j n0 Q pc L (vr (a + 1) :: S) n M = (ob n a = 9 ∧ J O j n0 Q (pc + 3) L (vr (M a 3).toNat :: S) n M) := J_get fe_108 (by rw [hm]) hd
theorem p_108 {O : pO} {j n0 : Nat} {Q : pQ} {pc : Nat} {L : pL} {S : List pv} {n : Nat} {M : pM} {a b : Nat} (hm : mO j = 9) (hi : (mY j).name = "<init>") (hd : decode (mB j) pc = .ok (.putfield 18, 3)) : J O j n0 Q pc L (vr b :: vr (a + 1) :: S) n M = (ob n a = 9 ∧ J O j n0 Q (pc + 3) L S n (st M a 3 (b : Int))) := (J_put (C := True) (x := (b : Int)) fe_108 (by rw [hm]) (Or.inr ⟨hi, hm.symm, rfl⟩) (fun y => by show (∃ k : Nat, vr b = vr k ∧ y = (k : Int)) ↔ _; refine ⟨fun h => ?_, fun h => ⟨b, rfl, h.2⟩⟩; obtain ⟨k, h1, h2⟩ := h; cases h1; exact ⟨trivial, h2⟩) hd).trans (by simp only [true_and])
theorem fe_109 : (8, 43, 9, 3, 521, 1) ∈ fldL := by decide +kernel
theorem g_109 {O : pO} {j n0 : Nat} {Q : pQ} {pc : Nat} {L : pL} {S : List pv} {n : Nat} {M : pM} {a : Nat} (hm : mO j = 8) (hd : decode (mB j) pc = .ok (.getfield 43, 3)) : J O j n0 Q pc L (vr (a + 1) :: S) n M = (ob n a = 9 ∧ J O j n0 Q (pc + 3) L (vr (M a 3).toNat :: S) n M) := J_get fe_109 (by rw [hm]) hd
theorem fe_110 : (9, 21, 9, 4, 522, 0) ∈ fldL := by decide +kernel
theorem g_110 {O : pO} {j n0 : Nat} {Q : pQ} {pc : Nat} {L : pL} {S : List pv} {n : Nat} {M : pM} {a : Nat} (hm : mO j = 9) (hd : decode (mB j) pc = .ok (.getfield 21, 3)) : J O j n0 Q pc L (vr (a + 1) :: S) n M = (ob n a = 9 ∧ J O j n0 Q (pc + 3) L (vr (M a 4).toNat :: S) n M) := J_get fe_110 (by rw [hm]) hd
theorem p_110 {O : pO} {j n0 : Nat} {Q : pQ} {pc : Nat} {L : pL} {S : List pv} {n : Nat} {M : pM} {a b : Nat} (hm : mO j = 9) (hi : (mY j).name = "<init>") (hd : decode (mB j) pc = .ok (.putfield 21, 3)) : J O j n0 Q pc L (vr b :: vr (a + 1) :: S) n M = (ob n a = 9 ∧ J O j n0 Q (pc + 3) L S n (st M a 4 (b : Int))) := (J_put (C := True) (x := (b : Int)) fe_110 (by rw [hm]) (Or.inr ⟨hi, hm.symm, rfl⟩) (fun y => by show (∃ k : Nat, vr b = vr k ∧ y = (k : Int)) ↔ _; refine ⟨fun h => ?_, fun h => ⟨b, rfl, h.2⟩⟩; obtain ⟨k, h1, h2⟩ := h; cases h1; exact ⟨trivial, h2⟩) hd).trans (by simp only [true_and])
theorem fe_111 : (8, 47, 9, 4, 523, 1) ∈ fldL := by decide +kernel
theorem g_111 {O : pO} {j n0 : Nat} {Q : pQ} {pc : Nat} {L : pL} {S : List pv} {n : Nat} {M : pM} {a : Nat} (hm : mO j = 8) (hd : decode (mB j) pc = .ok (.getfield 47, 3)) : J O j n0 Q pc L (vr (a + 1) :: S) n M = (ob n a = 9 ∧ J O j n0 Q (pc + 3) L (vr (M a 4).toNat :: S) n M) := J_get fe_111 (by rw [hm]) hd
theorem fe_112 : (9, 24, 9, 5, 524, 0) ∈ fldL := by decide +kernel
theorem g_112 {O : pO} {j n0 : Nat} {Q : pQ} {pc : Nat} {L : pL} {S : List pv} {n : Nat} {M : pM} {a : Nat} (hm : mO j = 9) (hd : decode (mB j) pc = .ok (.getfield 24, 3)) : J O j n0 Q pc L (vr (a + 1) :: S) n M = (ob n a = 9 ∧ J O j n0 Q (pc + 3) L (vr (M a 5).toNat :: S) n M) := J_get fe_112 (by rw [hm]) hd
theorem p_112 {O : pO} {j n0 : Nat} {Q : pQ} {pc : Nat} {L : pL} {S : List pv} {n : Nat} {M : pM} {a b : Nat} (hm : mO j = 9) (hi : (mY j).name = "<init>") (hd : decode (mB j) pc = .ok (.putfield 24, 3)) : J O j n0 Q pc L (vr b :: vr (a + 1) :: S) n M = (ob n a = 9 ∧ J O j n0 Q (pc + 3) L S n (st M a 5 (b : Int))) := (J_put (C := True) (x := (b : Int)) fe_112 (by rw [hm]) (Or.inr ⟨hi, hm.symm, rfl⟩) (fun y => by show (∃ k : Nat, vr b = vr k ∧ y = (k : Int)) ↔ _; refine ⟨fun h => ?_, fun h => ⟨b, rfl, h.2⟩⟩; obtain ⟨k, h1, h2⟩ := h; cases h1; exact ⟨trivial, h2⟩) hd).trans (by simp only [true_and])
theorem fe_113 : (8, 48, 9, 5, 525, 1) ∈ fldL := by decide +kernel
theorem g_113 {O : pO} {j n0 : Nat} {Q : pQ} {pc : Nat} {L : pL} {S : List pv} {n : Nat} {M : pM} {a : Nat} (hm : mO j = 8) (hd : decode (mB j) pc = .ok (.getfield 48, 3)) : J O j n0 Q pc L (vr (a + 1) :: S) n M = (ob n a = 9 ∧ J O j n0 Q (pc + 3) L (vr (M a 5).toNat :: S) n M) := J_get fe_113 (by rw [hm]) hd
theorem fe_114 : (9, 27, 9, 6, 526, 0) ∈ fldL := by decide +kernel
theorem g_114 {O : pO} {j n0 : Nat} {Q : pQ} {pc : Nat} {L : pL} {S : List pv} {n : Nat} {M : pM} {a : Nat} (hm : mO j = 9) (hd : decode (mB j) pc = .ok (.getfield 27, 3)) : J O j n0 Q pc L (vr (a + 1) :: S) n M = (ob n a = 9 ∧ J O j n0 Q (pc + 3) L (vr (M a 6).toNat :: S) n M) := J_get fe_114 (by rw [hm]) hd
theorem p_114 {O : pO} {j n0 : Nat} {Q : pQ} {pc : Nat} {L : pL} {S : List pv} {n : Nat} {M : pM} {a b : Nat} (hm : mO j = 9) (hi : (mY j).name = "<init>") (hd : decode (mB j) pc = .ok (.putfield 27, 3)) : J O j n0 Q pc L (vr b :: vr (a + 1) :: S) n M = (ob n a = 9 ∧ J O j n0 Q (pc + 3) L S n (st M a 6 (b : Int))) := (J_put (C := True) (x := (b : Int)) fe_114 (by rw [hm]) (Or.inr ⟨hi, hm.symm, rfl⟩) (fun y => by show (∃ k : Nat, vr b = vr k ∧ y = (k : Int)) ↔ _; refine ⟨fun h => ?_, fun h => ⟨b, rfl, h.2⟩⟩; obtain ⟨k, h1, h2⟩ := h; cases h1; exact ⟨trivial, h2⟩) hd).trans (by simp only [true_and])
theorem fe_115 : (9, 30, 9, 7, 527, 0) ∈ fldL := by decide +kernel
theorem g_115 {O : pO} {j n0 : Nat} {Q : pQ} {pc : Nat} {L : pL} {S : List pv} {n : Nat} {M : pM} {a : Nat} (hm : mO j = 9) (hd : decode (mB j) pc = .ok (.getfield 30, 3)) : J O j n0 Q pc L (vr (a + 1) :: S) n M = (ob n a = 9 ∧ J O j n0 Q (pc + 3) L (vr (M a 7).toNat :: S) n M) := J_get fe_115 (by rw [hm]) hd
theorem p_115 {O : pO} {j n0 : Nat} {Q : pQ} {pc : Nat} {L : pL} {S : List pv} {n : Nat} {M : pM} {a b : Nat} (hm : mO j = 9) (hi : (mY j).name = "<init>") (hd : decode (mB j) pc = .ok (.putfield 30, 3)) : J O j n0 Q pc L (vr b :: vr (a + 1) :: S) n M = (ob n a = 9 ∧ J O j n0 Q (pc + 3) L S n (st M a 7 (b : Int))) := (J_put (C := True) (x := (b : Int)) fe_115 (by rw [hm]) (Or.inr ⟨hi, hm.symm, rfl⟩) (fun y => by show (∃ k : Nat, vr b = vr k ∧ y = (k : Int)) ↔ _; refine ⟨fun h => ?_, fun h => ⟨b, rfl, h.2⟩⟩; obtain ⟨k, h1, h2⟩ := h; cases h1; exact ⟨trivial, h2⟩) hd).trans (by simp only [true_and])
theorem fe_116 : (9, 37, 9, 8, 528, 0) ∈ fldL := by decide +kernel
theorem g_116 {O : pO} {j n0 : Nat} {Q : pQ} {pc : Nat} {L : pL} {S : List pv} {n : Nat} {M : pM} {a : Nat} (hm : mO j = 9) (hd : decode (mB j) pc = .ok (.getfield 37, 3)) : J O j n0 Q pc L (vr (a + 1) :: S) n M = (ob n a = 9 ∧ J O j n0 Q (pc + 3) L (vi (M a 8) :: S) n M) := J_get fe_116 (by rw [hm]) hd
theorem p_116 {O : pO} {j n0 : Nat} {Q : pQ} {pc : Nat} {L : pL} {S : List pv} {n : Nat} {M : pM} {a : Nat} {x : Int} (hm : mO j = 9) (hd : decode (mB j) pc = .ok (.putfield 37, 3)) : J O j n0 Q pc L (vi x :: vr (a + 1) :: S) n M = (ob n a = 9 ∧ J O j n0 Q (pc + 3) L S n (st M a 8 x)) := (J_put (C := True) (x := x) fe_116 (by rw [hm]) (Or.inl rfl) (fun y => by show (vi x = vi y) ↔ _; simp [eq_comm]) hd).trans (by simp only [true_and])
theorem fe_117 : (8, 30, 9, 8, 529, 1) ∈ fldL := by decide +kernel
theorem g_117 {O : pO} {j n0 : Nat} {Q : pQ} {pc : Nat} {L : pL} {S : List pv} {n : Nat} {M : pM} {a : Nat} (hm : mO j = 8) (hd : decode (mB j) pc = .ok (.getfield 30, 3)) : J O j n0 Q pc L (vr (a + 1) :: S) n M = (ob n a = 9 ∧ J O j n0 Q (pc + 3) L (vi (M a 8) :: S) n M) := J_get fe_117 (by rw [hm]) hd
theorem p_117 {O : pO} {j n0 : Nat} {Q : pQ} {pc : Nat} {L : pL} {S : List pv} {n : Nat} {M : pM} {a : Nat} {x : Int} (hm : mO j = 8) (hd : decode (mB j) pc = .ok (.putfield 30, 3)) : J O j n0 Q pc L (vi x :: vr (a + 1) :: S) n M = (ob n a = 9 ∧ J O j n0 Q (pc + 3) L S n (st M a 8 x)) := (J_put (C := True) (x := x) fe_117 (by rw [hm]) (Or.inl rfl) (fun y => by show (vi x = vi y) ↔ _; simp [eq_comm]) hd).trans (by simp only [true_and])
theorem fe_118 : (11, 310, 9, 8, 530, 1) ∈ fldL := by decide +kernel
theorem g_118 {O : pO} {j n0 : Nat} {Q : pQ} {pc : Nat} {L : pL} {S : List pv} {n : Nat} {M : pM} {a : Nat} (hm : mO j = 11) (hd : decode (mB j) pc = .ok (.getfield 310, 3)) : J O j n0 Q pc L (vr (a + 1) :: S) n M = (ob n a = 9 ∧ J O j n0 Q (pc + 3) L (vi (M a 8) :: S) n M) := J_get fe_118 (by rw [hm]) hd
theorem p_118 {O : pO} {j n0 : Nat} {Q : pQ} {pc : Nat} {L : pL} {S : List pv} {n : Nat} {M : pM} {a : Nat} {x : Int} (hm : mO j = 11) (hd : decode (mB j) pc = .ok (.putfield 310, 3)) : J O j n0 Q pc L (vi x :: vr (a + 1) :: S) n M = (ob n a = 9 ∧ J O j n0 Q (pc + 3) L S n (st M a 8 x)) := (J_put (C := True) (x := x) fe_118 (by rw [hm]) (Or.inl rfl) (fun y => by show (vi x = vi y) ↔ _; simp [eq_comm]) hd).trans (by simp only [true_and])
theorem fe_119 : (9, 40, 9, 9, 531, 0) ∈ fldL := by decide +kernel
theorem g_119 {O : pO} {j n0 : Nat} {Q : pQ} {pc : Nat} {L : pL} {S : List pv} {n : Nat} {M : pM} {a : Nat} (hm : mO j = 9) (hd : decode (mB j) pc = .ok (.getfield 40, 3)) : J O j n0 Q pc L (vr (a + 1) :: S) n M = (ob n a = 9 ∧ J O j n0 Q (pc + 3) L (vi (M a 9) :: S) n M) := J_get fe_119 (by rw [hm]) hd
theorem p_119 {O : pO} {j n0 : Nat} {Q : pQ} {pc : Nat} {L : pL} {S : List pv} {n : Nat} {M : pM} {a : Nat} {x : Int} (hm : mO j = 9) (hd : decode (mB j) pc = .ok (.putfield 40, 3)) : J O j n0 Q pc L (vi x :: vr (a + 1) :: S) n M = (ob n a = 9 ∧ J O j n0 Q (pc + 3) L S n (st M a 9 x)) := (J_put (C := True) (x := x) fe_119 (by rw [hm]) (Or.inl rfl) (fun y => by show (vi x = vi y) ↔ _; simp [eq_comm]) hd).trans (by simp only [true_and])
theorem fe_120 : (11, 313, 9, 9, 532, 1) ∈ fldL := by decide +kernel
theorem g_120 {O : pO} {j n0 : Nat} {Q : pQ} {pc : Nat} {L : pL} {S : List pv} {n : Nat} {M : pM} {a : Nat} (hm : mO j = 11) (hd : decode (mB j) pc = .ok (.getfield 313, 3)) : J O j n0 Q pc L (vr (a + 1) :: S) n M = (ob n a = 9 ∧ J O j n0 Q (pc + 3) L (vi (M a 9) :: S) n M) := J_get fe_120 (by rw [hm]) hd
theorem p_120 {O : pO} {j n0 : Nat} {Q : pQ} {pc : Nat} {L : pL} {S : List pv} {n : Nat} {M : pM} {a : Nat} {x : Int} (hm : mO j = 11) (hd : decode (mB j) pc = .ok (.putfield 313, 3)) : J O j n0 Q pc L (vi x :: vr (a + 1) :: S) n M = (ob n a = 9 ∧ J O j n0 Q (pc + 3) L S n (st M a 9 x)) := (J_put (C := True) (x := x) fe_120 (by rw [hm]) (Or.inl rfl) (fun y => by show (vi x = vi y) ↔ _; simp [eq_comm]) hd).trans (by simp only [true_and])
theorem fe_121 : (8, 9, 8, 0, 560, 0) ∈ fldL := by decide +kernel
theorem g_121 {O : pO} {j n0 : Nat} {Q : pQ} {pc : Nat} {L : pL} {S : List pv} {n : Nat} {M : pM} {a : Nat} (hm : mO j = 8) (hd : decode (mB j) pc = .ok (.getfield 9, 3)) : J O j n0 Q pc L (vr (a + 1) :: S) n M = (ob n a = 8 ∧ J O j n0 Q (pc + 3) L (vr (M a 0).toNat :: S) n M) := J_get fe_121 (by rw [hm]) hd
theorem p_121 {O : pO} {j n0 : Nat} {Q : pQ} {pc : Nat} {L : pL} {S : List pv} {n : Nat} {M : pM} {a b : Nat} (hm : mO j = 8) (hi : (mY j).name = "<init>") (hd : decode (mB j) pc = .ok (.putfield 9, 3)) : J O j n0 Q pc L (vr b :: vr (a + 1) :: S) n M = (ob n a = 8 ∧ J O j n0 Q (pc + 3) L S n (st M a 0 (b : Int))) := (J_put (C := True) (x := (b : Int)) fe_121 (by rw [hm]) (Or.inr ⟨hi, hm.symm, rfl⟩) (fun y => by show (∃ k : Nat, vr b = vr k ∧ y = (k : Int)) ↔ _; refine ⟨fun h => ?_, fun h => ⟨b, rfl, h.2⟩⟩; obtain ⟨k, h1, h2⟩ := h; cases h1; exact ⟨trivial, h2⟩) hd).trans (by simp only [true_and])
theorem fe_122 : (8, 15, 8, 1, 561, 0) ∈ fldL := by decide +kernel
theorem g_122 {O : pO} {j n0 : Nat} {Q : pQ} {pc : Nat} {L : pL} {S : List pv} {n : Nat} {M : pM} {a : Nat} (hm : mO j = 8) (hd : decode (mB j) pc = .ok (.getfield 15, 3)) : J O j n0 Q pc L (vr (a + 1) :: S) n M = (ob n a = 8 ∧ J O j n0 Q (pc + 3) L (vr (M a 1).toNat :: S) n M) := J_get fe_122 (by rw [hm]) hd
theorem p_122 {O : pO} {j n0 : Nat} {Q : pQ} {pc : Nat} {L : pL} {S : List pv} {n : Nat} {M : pM} {a b : Nat} (hm : mO j = 8) (hi : (mY j).name = "<init>") (hd : decode (mB j) pc = .ok (.putfield 15, 3)) : J O j n0 Q pc L (vr b :: vr (a + 1) :: S) n M = (ob n a = 8 ∧ J O j n0 Q (pc + 3) L S n (st M a 1 (b : Int))) := (J_put (C := True) (x := (b : Int)) fe_122 (by rw [hm]) (Or.inr ⟨hi, hm.symm, rfl⟩) (fun y => by show (∃ k : Nat, vr b = vr k ∧ y = (k : Int)) ↔ _; refine ⟨fun h => ?_, fun h => ⟨b, rfl, h.2⟩⟩; obtain ⟨k, h1, h2⟩ := h; cases h1; exact ⟨trivial, h2⟩) hd).trans (by simp only [true_and])
theorem fe_123 : (8, 18, 8, 2, 562, 0) ∈ fldL := by decide +kernel
theorem g_123 {O : pO} {j n0 : Nat} {Q : pQ} {pc : Nat} {L : pL} {S : List pv} {n : Nat} {M : pM} {a : Nat} (hm : mO j = 8) (hd : decode (mB j) pc = .ok (.getfield 18, 3)) : J O j n0 Q pc L (vr (a + 1) :: S) n M = (ob n a = 8 ∧ J O j n0 Q (pc + 3) L (vr (M a 2).toNat :: S) n M) := J_get fe_123 (by rw [hm]) hd
theorem p_123 {O : pO} {j n0 : Nat} {Q : pQ} {pc : Nat} {L : pL} {S : List pv} {n : Nat} {M : pM} {a b : Nat} (hm : mO j = 8) (hi : (mY j).name = "<init>") (hd : decode (mB j) pc = .ok (.putfield 18, 3)) : J O j n0 Q pc L (vr b :: vr (a + 1) :: S) n M = (ob n a = 8 ∧ J O j n0 Q (pc + 3) L S n (st M a 2 (b : Int))) := (J_put (C := True) (x := (b : Int)) fe_123 (by rw [hm]) (Or.inr ⟨hi, hm.symm, rfl⟩) (fun y => by show (∃ k : Nat, vr b = vr k ∧ y = (k : Int)) ↔ _; refine ⟨fun h => ?_, fun h => ⟨b, rfl, h.2⟩⟩; obtain ⟨k, h1, h2⟩ := h; cases h1; exact ⟨trivial, h2⟩) hd).trans (by simp only [true_and])
theorem fe_124 : (8, 21, 8, 3, 563, 0) ∈ fldL := by decide +kernel
theorem g_124 {O : pO} {j n0 : Nat} {Q : pQ} {pc : Nat} {L : pL} {S : List pv} {n : Nat} {M : pM} {a : Nat} (hm : mO j = 8) (hd : decode (mB j) pc = .ok (.getfield 21, 3)) : J O j n0 Q pc L (vr (a + 1) :: S) n M = (ob n a = 8 ∧ J O j n0 Q (pc + 3) L (vr (M a 3).toNat :: S) n M) := J_get fe_124 (by rw [hm]) hd
theorem p_124 {O : pO} {j n0 : Nat} {Q : pQ} {pc : Nat} {L : pL} {S : List pv} {n : Nat} {M : pM} {a b : Nat} (hm : mO j = 8) (hi : (mY j).name = "<init>") (hd : decode (mB j) pc = .ok (.putfield 21, 3)) : J O j n0 Q pc L (vr b :: vr (a + 1) :: S) n M = (ob n a = 8 ∧ J O j n0 Q (pc + 3) L S n (st M a 3 (b : Int))) := (J_put (C := True) (x := (b : Int)) fe_124 (by rw [hm]) (Or.inr ⟨hi, hm.symm, rfl⟩) (fun y => by show (∃ k : Nat, vr b = vr k ∧ y = (k : Int)) ↔ _; refine ⟨fun h => ?_, fun h => ⟨b, rfl, h.2⟩⟩; obtain ⟨k, h1, h2⟩ := h; cases h1; exact ⟨trivial, h2⟩) hd).trans (by simp only [true_and])
theorem fe_125 : (8, 44, 8, 4, 564, 0) ∈ fldL := by decide +kernel
theorem g_125 {O : pO} {j n0 : Nat} {Q : pQ} {pc : Nat} {L : pL} {S : List pv} {n : Nat} {M : pM} {a : Nat} (hm : mO j = 8) (hd : decode (mB j) pc = .ok (.getfield 44, 3)) : J O j n0 Q pc L (vr (a + 1) :: S) n M = (ob n a = 8 ∧ J O j n0 Q (pc + 3) L (vi (M a 4) :: S) n M) := J_get fe_125 (by rw [hm]) hd
theorem p_125 {O : pO} {j n0 : Nat} {Q : pQ} {pc : Nat} {L : pL} {S : List pv} {n : Nat} {M : pM} {a : Nat} {x : Int} (hm : mO j = 8) (hd : decode (mB j) pc = .ok (.putfield 44, 3)) : J O j n0 Q pc L (vi x :: vr (a + 1) :: S) n M = (ob n a = 8 ∧ J O j n0 Q (pc + 3) L S n (st M a 4 x)) := (J_put (C := True) (x := x) fe_125 (by rw [hm]) (Or.inl rfl) (fun y => by show (vi x = vi y) ↔ _; simp [eq_comm]) hd).trans (by simp only [true_and])
theorem fe_126 : (11, 255, 8, 4, 565, 1) ∈ fldL := by decide +kernel
theorem g_126 {O : pO} {j n0 : Nat} {Q : pQ} {pc : Nat} {L : pL} {S : List pv} {n : Nat} {M : pM} {a : Nat} (hm : mO j = 11) (hd : decode (mB j) pc = .ok (.getfield 255, 3)) : J O j n0 Q pc L (vr (a + 1) :: S) n M = (ob n a = 8 ∧ J O j n0 Q (pc + 3) L (vi (M a 4) :: S) n M) := J_get fe_126 (by rw [hm]) hd
theorem p_126 {O : pO} {j n0 : Nat} {Q : pQ} {pc : Nat} {L : pL} {S : List pv} {n : Nat} {M : pM} {a : Nat} {x : Int} (hm : mO j = 11) (hd : decode (mB j) pc = .ok (.putfield 255, 3)) : J O j n0 Q pc L (vi x :: vr (a + 1) :: S) n M = (ob n a = 8 ∧ J O j n0 Q (pc + 3) L S n (st M a 4 x)) := (J_put (C := True) (x := x) fe_126 (by rw [hm]) (Or.inl rfl) (fun y => by show (vi x = vi y) ↔ _; simp [eq_comm]) hd).trans (by simp only [true_and])
theorem fe_127 : (6, 51, 8, 5, 566, 1) ∈ fldL := by decide +kernel
theorem g_127 {O : pO} {j n0 : Nat} {Q : pQ} {pc : Nat} {L : pL} {S : List pv} {n : Nat} {M : pM} {a : Nat} (hm : mO j = 6) (hd : decode (mB j) pc = .ok (.getfield 51, 3)) : J O j n0 Q pc L (vr (a + 1) :: S) n M = (ob n a = 8 ∧ J O j n0 Q (pc + 3) L (vi (M a 5) :: S) n M) := J_get fe_127 (by rw [hm]) hd
theorem p_127 {O : pO} {j n0 : Nat} {Q : pQ} {pc : Nat} {L : pL} {S : List pv} {n : Nat} {M : pM} {a : Nat} {x : Int} (hm : mO j = 6) (hd : decode (mB j) pc = .ok (.putfield 51, 3)) : J O j n0 Q pc L (vi x :: vr (a + 1) :: S) n M = (ob n a = 8 ∧ J O j n0 Q (pc + 3) L S n (st M a 5 x)) := (J_put (C := True) (x := x) fe_127 (by rw [hm]) (Or.inl rfl) (fun y => by show (vi x = vi y) ↔ _; simp [eq_comm]) hd).trans (by simp only [true_and])
theorem fe_128 : (8, 62, 8, 5, 567, 0) ∈ fldL := by decide +kernel
theorem g_128 {O : pO} {j n0 : Nat} {Q : pQ} {pc : Nat} {L : pL} {S : List pv} {n : Nat} {M : pM} {a : Nat} (hm : mO j = 8) (hd : decode (mB j) pc = .ok (.getfield 62, 3)) : J O j n0 Q pc L (vr (a + 1) :: S) n M = (ob n a = 8 ∧ J O j n0 Q (pc + 3) L (vi (M a 5) :: S) n M) := J_get fe_128 (by rw [hm]) hd
theorem p_128 {O : pO} {j n0 : Nat} {Q : pQ} {pc : Nat} {L : pL} {S : List pv} {n : Nat} {M : pM} {a : Nat} {x : Int} (hm : mO j = 8) (hd : decode (mB j) pc = .ok (.putfield 62, 3)) : J O j n0 Q pc L (vi x :: vr (a + 1) :: S) n M = (ob n a = 8 ∧ J O j n0 Q (pc + 3) L S n (st M a 5 x)) := (J_put (C := True) (x := x) fe_128 (by rw [hm]) (Or.inl rfl) (fun y => by show (vi x = vi y) ↔ _; simp [eq_comm]) hd).trans (by simp only [true_and])
theorem fe_129 : (11, 236, 8, 5, 568, 1) ∈ fldL := by decide +kernel
theorem g_129 {O : pO} {j n0 : Nat} {Q : pQ} {pc : Nat} {L : pL} {S : List pv} {n : Nat} {M : pM} {a : Nat} (hm : mO j = 11) (hd : decode (mB j) pc = .ok (.getfield 236, 3)) : J O j n0 Q pc L (vr (a + 1) :: S) n M = (ob n a = 8 ∧ J O j n0 Q (pc + 3) L (vi (M a 5) :: S) n M) := J_get fe_129 (by rw [hm]) hd
theorem p_129 {O : pO} {j n0 : Nat} {Q : pQ} {pc : Nat} {L : pL} {S : List pv} {n : Nat} {M : pM} {a : Nat} {x : Int} (hm : mO j = 11) (hd : decode (mB j) pc = .ok (.putfield 236, 3)) : J O j n0 Q pc L (vi x :: vr (a + 1) :: S) n M = (ob n a = 8 ∧ J O j n0 Q (pc + 3) L S n (st M a 5 x)) := (J_put (C := True) (x := x) fe_129 (by rw [hm]) (Or.inl rfl) (fun y => by show (vi x = vi y) ↔ _; simp [eq_comm]) hd).trans (by simp only [true_and])
theorem fe_130 : (8, 65, 8, 6, 569, 0) ∈ fldL := by decide +kernel
theorem g_130 {O : pO} {j n0 : Nat} {Q : pQ} {pc : Nat} {L : pL} {S : List pv} {n : Nat} {M : pM} {a : Nat} (hm : mO j = 8) (hd : decode (mB j) pc = .ok (.getfield 65, 3)) : J O j n0 Q pc L (vr (a + 1) :: S) n M = (ob n a = 8 ∧ J O j n0 Q (pc + 3) L (vi (M a 6) :: S) n M) := J_get fe_130 (by rw [hm]) hd
theorem p_130 {O : pO} {j n0 : Nat} {Q : pQ} {pc : Nat} {L : pL} {S : List pv} {n : Nat} {M : pM} {a : Nat} {x : Int} (hm : mO j = 8) (hd : decode (mB j) pc = .ok (.putfield 65, 3)) : J O j n0 Q pc L (vi x :: vr (a + 1) :: S) n M = (ob n a = 8 ∧ J O j n0 Q (pc + 3) L S n (st M a 6 x)) := (J_put (C := True) (x := x) fe_130 (by rw [hm]) (Or.inl rfl) (fun y => by show (vi x = vi y) ↔ _; simp [eq_comm]) hd).trans (by simp only [true_and])
theorem fe_131 : (6, 9, 6, 0, 591, 0) ∈ fldL := by decide +kernel
theorem g_131 {O : pO} {j n0 : Nat} {Q : pQ} {pc : Nat} {L : pL} {S : List pv} {n : Nat} {M : pM} {a : Nat} (hm : mO j = 6) (hd : decode (mB j) pc = .ok (.getfield 9, 3)) : J O j n0 Q pc L (vr (a + 1) :: S) n M = (ob n a = 6 ∧ J O j n0 Q (pc + 3) L (vr (M a 0).toNat :: S) n M) := J_get fe_131 (by rw [hm]) hd
theorem p_131 {O : pO} {j n0 : Nat} {Q : pQ} {pc : Nat} {L : pL} {S : List pv} {n : Nat} {M : pM} {a b : Nat} (hm : mO j = 6) (hi : (mY j).name = "<init>") (hd : decode (mB j) pc = .ok (.putfield 9, 3)) : J O j n0 Q pc L (vr b :: vr (a + 1) :: S) n M = (ob n a = 6 ∧ J O j n0 Q (pc + 3) L S n (st M a 0 (b : Int))) := (J_put (C := True) (x := (b : Int)) fe_131 (by rw [hm]) (Or.inr ⟨hi, hm.symm, rfl⟩) (fun y => by show (∃ k : Nat, vr b = vr k ∧ y = (k : Int)) ↔ _; refine ⟨fun h => ?_, fun h => ⟨b, rfl, h.2⟩⟩; obtain ⟨k, h1, h2⟩ := h; cases h1; exact ⟨trivial, h2⟩) hd).trans (by simp only [true_and])
theorem fe_132 : (10, 9, 10, 0, 601, 0) ∈ fldL := by decide +kernel
theorem g_132 {O : pO} {j n0 : Nat} {Q : pQ} {pc : Nat} {L : pL} {S : List pv} {n : Nat} {M : pM} {a : Nat} (hm : mO j = 10) (hd : decode (mB j) pc = .ok (.getfield 9, 3)) : J O j n0 Q pc L (vr (a + 1) :: S) n M = (ob n a = 10 ∧ J O j n0 Q (pc + 3) L (vr (M a 0).toNat :: S) n M) := J_get fe_132 (by rw [hm]) hd
theorem p_132 {O : pO} {j n0 : Nat} {Q : pQ} {pc : Nat} {L : pL} {S : List pv} {n : Nat} {M : pM} {a b : Nat} (hm : mO j = 10) (hi : (mY j).name = "<init>") (hd : decode (mB j) pc = .ok (.putfield 9, 3)) : J O j n0 Q pc L (vr b :: vr (a + 1) :: S) n M = (ob n a = 10 ∧ J O j n0 Q (pc + 3) L S n (st M a 0 (b : Int))) := (J_put (C := True) (x := (b : Int)) fe_132 (by rw [hm]) (Or.inr ⟨hi, hm.symm, rfl⟩) (fun y => by show (∃ k : Nat, vr b = vr k ∧ y = (k : Int)) ↔ _; refine ⟨fun h => ?_, fun h => ⟨b, rfl, h.2⟩⟩; obtain ⟨k, h1, h2⟩ := h; cases h1; exact ⟨trivial, h2⟩) hd).trans (by simp only [true_and])
theorem fe_133 : (10, 27, 10, 1, 602, 0) ∈ fldL := by decide +kernel
theorem g_133 {O : pO} {j n0 : Nat} {Q : pQ} {pc : Nat} {L : pL} {S : List pv} {n : Nat} {M : pM} {a : Nat} (hm : mO j = 10) (hd : decode (mB j) pc = .ok (.getfield 27, 3)) : J O j n0 Q pc L (vr (a + 1) :: S) n M = (ob n a = 10 ∧ J O j n0 Q (pc + 3) L (vi (M a 1) :: S) n M) := J_get fe_133 (by rw [hm]) hd
theorem p_133 {O : pO} {j n0 : Nat} {Q : pQ} {pc : Nat} {L : pL} {S : List pv} {n : Nat} {M : pM} {a : Nat} {x : Int} (hm : mO j = 10) (hd : decode (mB j) pc = .ok (.putfield 27, 3)) : J O j n0 Q pc L (vi x :: vr (a + 1) :: S) n M = (ob n a = 10 ∧ J O j n0 Q (pc + 3) L S n (st M a 1 x)) := (J_put (C := True) (x := x) fe_133 (by rw [hm]) (Or.inl rfl) (fun y => by show (vi x = vi y) ↔ _; simp [eq_comm]) hd).trans (by simp only [true_and])
theorem fe_134 : (11, 287, 10, 1, 603, 1) ∈ fldL := by decide +kernel
theorem g_134 {O : pO} {j n0 : Nat} {Q : pQ} {pc : Nat} {L : pL} {S : List pv} {n : Nat} {M : pM} {a : Nat} (hm : mO j = 11) (hd : decode (mB j) pc = .ok (.getfield 287, 3)) : J O j n0 Q pc L (vr (a + 1) :: S) n M = (ob n a = 10 ∧ J O j n0 Q (pc + 3) L (vi (M a 1) :: S) n M) := J_get fe_134 (by rw [hm]) hd
theorem p_134 {O : pO} {j n0 : Nat} {Q : pQ} {pc : Nat} {L : pL} {S : List pv} {n : Nat} {M : pM} {a : Nat} {x : Int} (hm : mO j = 11) (hd : decode (mB j) pc = .ok (.putfield 287, 3)) : J O j n0 Q pc L (vi x :: vr (a + 1) :: S) n M = (ob n a = 10 ∧ J O j n0 Q (pc + 3) L S n (st M a 1 x)) := (J_put (C := True) (x := x) fe_134 (by rw [hm]) (Or.inl rfl) (fun y => by show (vi x = vi y) ↔ _; simp [eq_comm]) hd).trans (by simp only [true_and])
theorem fe_135 : (10, 15, 10, 2, 604, 0) ∈ fldL := by decide +kernel
theorem g_135 {O : pO} {j n0 : Nat} {Q : pQ} {pc : Nat} {L : pL} {S : List pv} {n : Nat} {M : pM} {a : Nat} (hm : mO j = 10) (hd : decode (mB j) pc = .ok (.getfield 15, 3)) : J O j n0 Q pc L (vr (a + 1) :: S) n M = (ob n a = 10 ∧ J O j n0 Q (pc + 3) L (vr (M a 2).toNat :: S) n M) := J_get fe_135 (by rw [hm]) hd
theorem p_135 {O : pO} {j n0 : Nat} {Q : pQ} {pc : Nat} {L : pL} {S : List pv} {n : Nat} {M : pM} {a b : Nat} (hm : mO j = 10) (hi : (mY j).name = "<init>") (hd : decode (mB j) pc = .ok (.putfield 15, 3)) : J O j n0 Q pc L (vr b :: vr (a + 1) :: S) n M = (ob n a = 10 ∧ J O j n0 Q (pc + 3) L S n (st M a 2 (b : Int))) := (J_put (C := True) (x := (b : Int)) fe_135 (by rw [hm]) (Or.inr ⟨hi, hm.symm, rfl⟩) (fun y => by show (∃ k : Nat, vr b = vr k ∧ y = (k : Int)) ↔ _; refine ⟨fun h => ?_, fun h => ⟨b, rfl, h.2⟩⟩; obtain ⟨k, h1, h2⟩ := h; cases h1; exact ⟨trivial, h2⟩) hd).trans (by simp only [true_and])
theorem fe_136 : (10, 18, 10, 3, 605, 0) ∈ fldL := by decide +kernel
theorem g_136 {O : pO} {j n0 : Nat} {Q : pQ} {pc : Nat} {L : pL} {S : List pv} {n : Nat} {M : pM} {a : Nat} (hm : mO j = 10) (hd : decode (mB j) pc = .ok (.getfield 18, 3)) : J O j n0 Q pc L (vr (a + 1) :: S) n M = (ob n a = 10 ∧ J O j n0 Q (pc + 3) L (vr (M a 3).toNat :: S) n M) := J_get fe_136 (by rw [hm]) hd
theorem p_136 {O : pO} {j n0 : Nat} {Q : pQ} {pc : Nat} {L : pL} {S : List pv} {n : Nat} {M : pM} {a b : Nat} (hm : mO j = 10) (hi : (mY j).name = "<init>") (hd : decode (mB j) pc = .ok (.putfield 18, 3)) : J O j n0 Q pc L (vr b :: vr (a + 1) :: S) n M = (ob n a = 10 ∧ J O j n0 Q (pc + 3) L S n (st M a 3 (b : Int))) := (J_put (C := True) (x := (b : Int)) fe_136 (by rw [hm]) (Or.inr ⟨hi, hm.symm, rfl⟩) (fun y => by show (∃ k : Nat, vr b = vr k ∧ y = (k : Int)) ↔ _; refine ⟨fun h => ?_, fun h => ⟨b, rfl, h.2⟩⟩; obtain ⟨k, h1, h2⟩ := h; cases h1; exact ⟨trivial, h2⟩) hd).trans (by simp only [true_and])
theorem fe_137 : (10, 21, 10, 4, 606, 0) ∈ fldL := by decide +kernel
theorem g_137 {O : pO} {j n0 : Nat} {Q : pQ} {pc : Nat} {L : pL} {S : List pv} {n : Nat} {M : pM} {a : Nat} (hm : mO j = 10) (hd : decode (mB j) pc = .ok (.getfield 21, 3)) : J O j n0 Q pc L (vr (a + 1) :: S) n M = (ob n a = 10 ∧ J O j n0 Q (pc + 3) L (vr (M a 4).toNat :: S) n M) := J_get fe_137 (by rw [hm]) hd
theorem p_137 {O : pO} {j n0 : Nat} {Q : pQ} {pc : Nat} {L : pL} {S : List pv} {n : Nat} {M : pM} {a b : Nat} (hm : mO j = 10) (hi : (mY j).name = "<init>") (hd : decode (mB j) pc = .ok (.putfield 21, 3)) : J O j n0 Q pc L (vr b :: vr (a + 1) :: S) n M = (ob n a = 10 ∧ J O j n0 Q (pc + 3) L S n (st M a 4 (b : Int))) := (J_put (C := True) (x := (b : Int)) fe_137 (by rw [hm]) (Or.inr ⟨hi, hm.symm, rfl⟩) (fun y => by show (∃ k : Nat, vr b = vr k ∧ y = (k : Int)) ↔ _; refine ⟨fun h => ?_, fun h => ⟨b, rfl, h.2⟩⟩; obtain ⟨k, h1, h2⟩ := h; cases h1; exact ⟨trivial, h2⟩) hd).trans (by simp only [true_and])
theorem fe_138 : (10, 24, 10, 5, 607, 0) ∈ fldL := by decide +kernel
theorem g_138 {O : pO} {j n0 : Nat} {Q : pQ} {pc : Nat} {L : pL} {S : List pv} {n : Nat} {M : pM} {a : Nat} (hm : mO j = 10) (hd : decode (mB j) pc = .ok (.getfield 24, 3)) : J O j n0 Q pc L (vr (a + 1) :: S) n M = (ob n a = 10 ∧ J O j n0 Q (pc + 3) L (vr (M a 5).toNat :: S) n M) := J_get fe_138 (by rw [hm]) hd
theorem p_138 {O : pO} {j n0 : Nat} {Q : pQ} {pc : Nat} {L : pL} {S : List pv} {n : Nat} {M : pM} {a b : Nat} (hm : mO j = 10) (hi : (mY j).name = "<init>") (hd : decode (mB j) pc = .ok (.putfield 24, 3)) : J O j n0 Q pc L (vr b :: vr (a + 1) :: S) n M = (ob n a = 10 ∧ J O j n0 Q (pc + 3) L S n (st M a 5 (b : Int))) := (J_put (C := True) (x := (b : Int)) fe_138 (by rw [hm]) (Or.inr ⟨hi, hm.symm, rfl⟩) (fun y => by show (∃ k : Nat, vr b = vr k ∧ y = (k : Int)) ↔ _; refine ⟨fun h => ?_, fun h => ⟨b, rfl, h.2⟩⟩; obtain ⟨k, h1, h2⟩ := h; cases h1; exact ⟨trivial, h2⟩) hd).trans (by simp only [true_and])
theorem fe_139 : (11, 288, 10, 5, 608, 1) ∈ fldL := by decide +kernel
theorem g_139 {O : pO} {j n0 : Nat} {Q : pQ} {pc : Nat} {L : pL} {S : List pv} {n : Nat} {M : pM} {a : Nat} (hm : mO j = 11) (hd : decode (mB j) pc = .ok (.getfield 288, 3)) : J O j n0 Q pc L (vr (a + 1) :: S) n M = (ob n a = 10 ∧ J O j n0 Q (pc + 3) L (vr (M a 5).toNat :: S) n M) := J_get fe_139 (by rw [hm]) hd
theorem fe_140 : (10, 50, 10, 6, 609, 0) ∈ fldL := by decide +kernel
theorem g_140 {O : pO} {j n0 : Nat} {Q : pQ} {pc : Nat} {L : pL} {S : List pv} {n : Nat} {M : pM} {a : Nat} (hm : mO j = 10) (hd : decode (mB j) pc = .ok (.getfield 50, 3)) : J O j n0 Q pc L (vr (a + 1) :: S) n M = (ob n a = 10 ∧ J O j n0 Q (pc + 3) L (vi (M a 6) :: S) n M) := J_get fe_140 (by rw [hm]) hd
theorem p_140 {O : pO} {j n0 : Nat} {Q : pQ} {pc : Nat} {L : pL} {S : List pv} {n : Nat} {M : pM} {a : Nat} {x : Int} (hm : mO j = 10) (hd : decode (mB j) pc = .ok (.putfield 50, 3)) : J O j n0 Q pc L (vi x :: vr (a + 1) :: S) n M = (ob n a = 10 ∧ J O j n0 Q (pc + 3) L S n (st M a 6 x)) := (J_put (C := True) (x := x) fe_140 (by rw [hm]) (Or.inl rfl) (fun y => by show (vi x = vi y) ↔ _; simp [eq_comm]) hd).trans (by simp only [true_and])
theorem fe_141 : (11, 284, 10, 6, 610, 1) ∈ fldL := by decide +kernel
theorem g_141 {O : pO} {j n0 : Nat} {Q : pQ} {pc : Nat} {L : pL} {S : List pv} {n : Nat} {M : pM} {a : Nat} (hm : mO j = 11) (hd : decode (mB j) pc = .ok (.getfield 284, 3)) : J O j n0 Q pc L (vr (a + 1) :: S) n M = (ob n a = 10 ∧ J O j n0 Q (pc + 3) L (vi (M a 6) :: S) n M) := J_get fe_141 (by rw [hm]) hd
theorem p_141 {O : pO} {j n0 : Nat} {Q : pQ} {pc : Nat} {L : pL} {S : List pv} {n : Nat} {M : pM} {a : Nat} {x : Int} (hm : mO j = 11) (hd : decode (mB j) pc = .ok (.putfield 284, 3)) : J O j n0 Q pc L (vi x :: vr (a + 1) :: S) n M = (ob n a = 10 ∧ J O j n0 Q (pc + 3) L S n (st M a 6 x)) := (J_put (C := True) (x := x) fe_141 (by rw [hm]) (Or.inl rfl) (fun y => by show (vi x = vi y) ↔ _; simp [eq_comm]) hd).trans (by simp only [true_and])
theorem fe_142 : (11, 9, 11, 0, 626, 0) ∈ fldL := by decide +kernel
theorem g_142 {O : pO} {j n0 : Nat} {Q : pQ} {pc : Nat} {L : pL} {S : List pv} {n : Nat} {M : pM} {a : Nat} (hm : mO j = 11) (hd : decode (mB j) pc = .ok (.getfield 9, 3)) : J O j n0 Q pc L (vr (a + 1) :: S) n M = (ob n a = 11 ∧ J O j n0 Q (pc + 3) L (vr (M a 0).toNat :: S) n M) := J_get fe_142 (by rw [hm]) hd
theorem p_142 {O : pO} {j n0 : Nat} {Q : pQ} {pc : Nat} {L : pL} {S : List pv} {n : Nat} {M : pM} {a b : Nat} (hm : mO j = 11) (hi : (mY j).name = "<init>") (hd : decode (mB j) pc = .ok (.putfield 9, 3)) : J O j n0 Q pc L (vr b :: vr (a + 1) :: S) n M = (ob n a = 11 ∧ J O j n0 Q (pc + 3) L S n (st M a 0 (b : Int))) := (J_put (C := True) (x := (b : Int)) fe_142 (by rw [hm]) (Or.inr ⟨hi, hm.symm, rfl⟩) (fun y => by show (∃ k : Nat, vr b = vr k ∧ y = (k : Int)) ↔ _; refine ⟨fun h => ?_, fun h => ⟨b, rfl, h.2⟩⟩; obtain ⟨k, h1, h2⟩ := h; cases h1; exact ⟨trivial, h2⟩) hd).trans (by simp only [true_and])
theorem fe_143 : (11, 105, 11, 1, 627, 0) ∈ fldL := by decide +kernel
theorem g_143 {O : pO} {j n0 : Nat} {Q : pQ} {pc : Nat} {L : pL} {S : List pv} {n : Nat} {M : pM} {a : Nat} (hm : mO j = 11) (hd : decode (mB j) pc = .ok (.getfield 105, 3)) : J O j n0 Q pc L (vr (a + 1) :: S) n M = (ob n a = 11 ∧ J O j n0 Q (pc + 3) L (vi (M a 1) :: S) n M) := J_get fe_143 (by rw [hm]) hd
theorem p_143 {O : pO} {j n0 : Nat} {Q : pQ} {pc : Nat} {L : pL} {S : List pv} {n : Nat} {M : pM} {a : Nat} {x : Int} (hm : mO j = 11) (hd : decode (mB j) pc = .ok (.putfield 105, 3)) : J O j n0 Q pc L (vi x :: vr (a + 1) :: S) n M = (ob n a = 11 ∧ J O j n0 Q (pc + 3) L S n (st M a 1 x)) := (J_put (C := True) (x := x) fe_143 (by rw [hm]) (Or.inl rfl) (fun y => by show (vi x = vi y) ↔ _; simp [eq_comm]) hd).trans (by simp only [true_and])
theorem fe_144 : (11, 18, 11, 2, 628, 0) ∈ fldL := by decide +kernel
theorem g_144 {O : pO} {j n0 : Nat} {Q : pQ} {pc : Nat} {L : pL} {S : List pv} {n : Nat} {M : pM} {a : Nat} (hm : mO j = 11) (hd : decode (mB j) pc = .ok (.getfield 18, 3)) : J O j n0 Q pc L (vr (a + 1) :: S) n M = (ob n a = 11 ∧ J O j n0 Q (pc + 3) L (vr (M a 2).toNat :: S) n M) := J_get fe_144 (by rw [hm]) hd
theorem p_144 {O : pO} {j n0 : Nat} {Q : pQ} {pc : Nat} {L : pL} {S : List pv} {n : Nat} {M : pM} {a b : Nat} (hm : mO j = 11) (hi : (mY j).name = "<init>") (hd : decode (mB j) pc = .ok (.putfield 18, 3)) : J O j n0 Q pc L (vr b :: vr (a + 1) :: S) n M = (ob n a = 11 ∧ J O j n0 Q (pc + 3) L S n (st M a 2 (b : Int))) := (J_put (C := True) (x := (b : Int)) fe_144 (by rw [hm]) (Or.inr ⟨hi, hm.symm, rfl⟩) (fun y => by show (∃ k : Nat, vr b = vr k ∧ y = (k : Int)) ↔ _; refine ⟨fun h => ?_, fun h => ⟨b, rfl, h.2⟩⟩; obtain ⟨k, h1, h2⟩ := h; cases h1; exact ⟨trivial, h2⟩) hd).trans (by simp only [true_and])
theorem fe_145 : (11, 25, 11, 3, 629, 0) ∈ fldL := by decide +kernel
theorem g_145 {O : pO} {j n0 : Nat} {Q : pQ} {pc : Nat} {L : pL} {S : List pv} {n : Nat} {M : pM} {a : Nat} (hm : mO j = 11) (hd : decode (mB j) pc = .ok (.getfield 25, 3)) : J O j n0 Q pc L (vr (a + 1) :: S) n M = (ob n a = 11 ∧ J O j n0 Q (pc + 3) L (vr (M a 3).toNat :: S) n M) := J_get fe_145 (by rw [hm]) hd
theorem p_145 {O : pO} {j n0 : Nat} {Q : pQ} {pc : Nat} {L : pL} {S : List pv} {n : Nat} {M : pM} {a b : Nat} (hm : mO j = 11) (hd : decode (mB j) pc = .ok (.putfield 25, 3)) : J O j n0 Q pc L (vr b :: vr (a + 1) :: S) n M = (ob n a = 11 ∧ J O j n0 Q (pc + 3) L S n (st M a 3 (b : Int))) := (J_put (C := True) (x := (b : Int)) fe_145 (by rw [hm]) (Or.inl rfl) (fun y => by show (∃ k : Nat, vr b = vr k ∧ y = (k : Int)) ↔ _; refine ⟨fun h => ?_, fun h => ⟨b, rfl, h.2⟩⟩; obtain ⟨k, h1, h2⟩ := h; cases h1; exact ⟨trivial, h2⟩) hd).trans (by simp only [true_and])
theorem fe_146 : (11, 29, 11, 4, 630, 0) ∈ fldL := by decide +kernel
theorem g_146 {O : pO} {j n0 : Nat} {Q : pQ} {pc : Nat} {L : pL} {S : List pv} {n : Nat} {M : pM} {a : Nat} (hm : mO j = 11) (hd : decode (mB j) pc = .ok (.getfield 29, 3)) : J O j n0 Q pc L (vr (a + 1) :: S) n M = (ob n a = 11 ∧ J O j n0 Q (pc + 3) L (vr (M a 4).toNat :: S) n M) := J_get fe_146 (by rw [hm]) hd
theorem p_146 {O : pO} {j n0 : Nat} {Q : pQ} {pc : Nat} {L : pL} {S : List pv} {n : Nat} {M : pM} {a b : Nat} (hm : mO j = 11) (hd : decode (mB j) pc = .ok (.putfield 29, 3)) : J O j n0 Q pc L (vr b :: vr (a + 1) :: S) n M = (ob n a = 11 ∧ J O j n0 Q (pc + 3) L S n (st M a 4 (b : Int))) := (J_put (C := True) (x := (b : Int)) fe_146 (by rw [hm]) (Or.inl rfl) (fun y => by show (∃ k : Nat, vr b = vr k ∧ y = (k : Int)) ↔ _; refine ⟨fun h => ?_, fun h => ⟨b, rfl, h.2⟩⟩; obtain ⟨k, h1, h2⟩ := h; cases h1; exact ⟨trivial, h2⟩) hd).trans (by simp only [true_and])
theorem fe_147 : (11, 37, 11, 5, 631, 0) ∈ fldL := by decide +kernel
theorem g_147 {O : pO} {j n0 : Nat} {Q : pQ} {pc : Nat} {L : pL} {S : List pv} {n : Nat} {M : pM} {a : Nat} (hm : mO j = 11) (hd : decode (mB j) pc = .ok (.getfield 37, 3)) : J O j n0 Q pc L (vr (a + 1) :: S) n M = (ob n a = 11 ∧ J O j n0 Q (pc + 3) L (vr (M a 5).toNat :: S) n M) := J_get fe_147 (by rw [hm]) hd
theorem p_147 {O : pO} {j n0 : Nat} {Q : pQ} {pc : Nat} {L : pL} {S : List pv} {n : Nat} {M : pM} {a b : Nat} (hm : mO j = 11) (hi : (mY j).name = "<init>") (hd : decode (mB j) pc = .ok (.putfield 37, 3)) : J O j n0 Q pc L (vr b :: vr (a + 1) :: S) n M = (ob n a = 11 ∧ J O j n0 Q (pc + 3) L S n (st M a 5 (b : Int))) := (J_put (C := True) (x := (b : Int)) fe_147 (by rw [hm]) (Or.inr ⟨hi, hm.symm, rfl⟩) (fun y => by show (∃ k : Nat, vr b = vr k ∧ y = (k : Int)) ↔ _; refine ⟨fun h => ?_, fun h => ⟨b, rfl, h.2⟩⟩; obtain ⟨k, h1, h2⟩ := h; cases h1; exact ⟨trivial, h2⟩) hd).trans (by simp only [true_and])
theorem fe_148 : (11, 46, 11, 6, 632, 0) ∈ fldL := by decide +kernel
theorem g_148 {O : pO} {j n0 : Nat} {Q : pQ} {pc : Nat} {L : pL} {S : List pv} {n : Nat} {M : pM} {a : Nat} (hm : mO j = 11) (hd : decode (mB j) pc = .ok (.getfield 46, 3)) : J O j n0 Q pc L (vr (a + 1) :: S) n M = (ob n a = 11 ∧ J O j n0 Q (pc + 3) L (vr (M a 6).toNat :: S) n M) := J_get fe_148 (by rw [hm]) hd
theorem p_148 {O : pO} {j n0 : Nat} {Q : pQ} {pc : Nat} {L : pL} {S : List pv} {n : Nat} {M : pM} {a b : Nat} (hm : mO j = 11) (hi : (mY j).name = "<init>") (hd : decode (mB j) pc = .ok (.putfield 46, 3)) : J O j n0 Q pc L (vr b :: vr (a + 1) :: S) n M = (ob n a = 11 ∧ J O j n0 Q (pc + 3) L S n (st M a 6 (b : Int))) := (J_put (C := True) (x := (b : Int)) fe_148 (by rw [hm]) (Or.inr ⟨hi, hm.symm, rfl⟩) (fun y => by show (∃ k : Nat, vr b = vr k ∧ y = (k : Int)) ↔ _; refine ⟨fun h => ?_, fun h => ⟨b, rfl, h.2⟩⟩; obtain ⟨k, h1, h2⟩ := h; cases h1; exact ⟨trivial, h2⟩) hd).trans (by simp only [true_and])
theorem fe_149 : (11, 134, 11, 7, 633, 0) ∈ fldL := by decide +kernel
theorem g_149 {O : pO} {j n0 : Nat} {Q : pQ} {pc : Nat} {L : pL} {S : List pv} {n : Nat} {M : pM} {a : Nat} (hm : mO j = 11) (hd : decode (mB j) pc = .ok (.getfield 134, 3)) : J O j n0 Q pc L (vr (a + 1) :: S) n M = (ob n a = 11 ∧ J O j n0 Q (pc + 3) L (vi (M a 7) :: S) n M) := J_get fe_149 (by rw [hm]) hd
theorem p_149 {O : pO} {j n0 : Nat} {Q : pQ} {pc : Nat} {L : pL} {S : List pv} {n : Nat} {M : pM} {a : Nat} {x : Int} (hm : mO j = 11) (hd : decode (mB j) pc = .ok (.putfield 134, 3)) : J O j n0 Q pc L (vi x :: vr (a + 1) :: S) n M = (ob n a = 11 ∧ J O j n0 Q (pc + 3) L S n (st M a 7 x)) := (J_put (C := True) (x := x) fe_149 (by rw [hm]) (Or.inl rfl) (fun y => by show (vi x = vi y) ↔ _; simp [eq_comm]) hd).trans (by simp only [true_and])
theorem fe_150 : (11, 50, 11, 8, 634, 0) ∈ fldL := by decide +kernel
theorem g_150 {O : pO} {j n0 : Nat} {Q : pQ} {pc : Nat} {L : pL} {S : List pv} {n : Nat} {M : pM} {a : Nat} (hm : mO j = 11) (hd : decode (mB j) pc = .ok (.getfield 50, 3)) : J O j n0 Q pc L (vr (a + 1) :: S) n M = (ob n a = 11 ∧ J O j n0 Q (pc + 3) L (vi (M a 8) :: S) n M) := J_get fe_150 (by rw [hm]) hd
theorem p_150 {O : pO} {j n0 : Nat} {Q : pQ} {pc : Nat} {L : pL} {S : List pv} {n : Nat} {M : pM} {a : Nat} {x : Int} (hm : mO j = 11) (hd : decode (mB j) pc = .ok (.putfield 50, 3)) : J O j n0 Q pc L (vi x :: vr (a + 1) :: S) n M = (ob n a = 11 ∧ J O j n0 Q (pc + 3) L S n (st M a 8 x)) := (J_put (C := True) (x := x) fe_150 (by rw [hm]) (Or.inl rfl) (fun y => by show (vi x = vi y) ↔ _; simp [eq_comm]) hd).trans (by simp only [true_and])
theorem fe_151 : (11, 57, 11, 9, 635, 0) ∈ fldL := by decide +kernel
theorem g_151 {O : pO} {j n0 : Nat} {Q : pQ} {pc : Nat} {L : pL} {S : List pv} {n : Nat} {M : pM} {a : Nat} (hm : mO j = 11) (hd : decode (mB j) pc = .ok (.getfield 57, 3)) : J O j n0 Q pc L (vr (a + 1) :: S) n M = (ob n a = 11 ∧ J O j n0 Q (pc + 3) L (vr (M a 9).toNat :: S) n M) := J_get fe_151 (by rw [hm]) hd
theorem p_151 {O : pO} {j n0 : Nat} {Q : pQ} {pc : Nat} {L : pL} {S : List pv} {n : Nat} {M : pM} {a b : Nat} (hm : mO j = 11) (hi : (mY j).name = "<init>") (hd : decode (mB j) pc = .ok (.putfield 57, 3)) : J O j n0 Q pc L (vr b :: vr (a + 1) :: S) n M = (ob n a = 11 ∧ J O j n0 Q (pc + 3) L S n (st M a 9 (b : Int))) := (J_put (C := True) (x := (b : Int)) fe_151 (by rw [hm]) (Or.inr ⟨hi, hm.symm, rfl⟩) (fun y => by show (∃ k : Nat, vr b = vr k ∧ y = (k : Int)) ↔ _; refine ⟨fun h => ?_, fun h => ⟨b, rfl, h.2⟩⟩; obtain ⟨k, h1, h2⟩ := h; cases h1; exact ⟨trivial, h2⟩) hd).trans (by simp only [true_and])
theorem fe_152 : (11, 66, 11, 10, 636, 0) ∈ fldL := by decide +kernel
theorem g_152 {O : pO} {j n0 : Nat} {Q : pQ} {pc : Nat} {L : pL} {S : List pv} {n : Nat} {M : pM} {a : Nat} (hm : mO j = 11) (hd : decode (mB j) pc = .ok (.getfield 66, 3)) : J O j n0 Q pc L (vr (a + 1) :: S) n M = (ob n a = 11 ∧ J O j n0 Q (pc + 3) L (vr (M a 10).toNat :: S) n M) := J_get fe_152 (by rw [hm]) hd
theorem p_152 {O : pO} {j n0 : Nat} {Q : pQ} {pc : Nat} {L : pL} {S : List pv} {n : Nat} {M : pM} {a b : Nat} (hm : mO j = 11) (hi : (mY j).name = "<init>") (hd : decode (mB j) pc = .ok (.putfield 66, 3)) : J O j n0 Q pc L (vr b :: vr (a + 1) :: S) n M = (ob n a = 11 ∧ J O j n0 Q (pc + 3) L S n (st M a 10 (b : Int))) := (J_put (C := True) (x := (b : Int)) fe_152 (by rw [hm]) (Or.inr ⟨hi, hm.symm, rfl⟩) (fun y => by show (∃ k : Nat, vr b = vr k ∧ y = (k : Int)) ↔ _; refine ⟨fun h => ?_, fun h => ⟨b, rfl, h.2⟩⟩; obtain ⟨k, h1, h2⟩ := h; cases h1; exact ⟨trivial, h2⟩) hd).trans (by simp only [true_and])
theorem fe_153 : (11, 73, 11, 11, 637, 0) ∈ fldL := by decide +kernel
theorem g_153 {O : pO} {j n0 : Nat} {Q : pQ} {pc : Nat} {L : pL} {S : List pv} {n : Nat} {M : pM} {a : Nat} (hm : mO j = 11) (hd : decode (mB j) pc = .ok (.getfield 73, 3)) : J O j n0 Q pc L (vr (a + 1) :: S) n M = (ob n a = 11 ∧ J O j n0 Q (pc + 3) L (vr (M a 11).toNat :: S) n M) := J_get fe_153 (by rw [hm]) hd
theorem p_153 {O : pO} {j n0 : Nat} {Q : pQ} {pc : Nat} {L : pL} {S : List pv} {n : Nat} {M : pM} {a b : Nat} (hm : mO j = 11) (hi : (mY j).name = "<init>") (hd : decode (mB j) pc = .ok (.putfield 73, 3)) : J O j n0 Q pc L (vr b :: vr (a + 1) :: S) n M = (ob n a = 11 ∧ J O j n0 Q (pc + 3) L S n (st M a 11 (b : Int))) := (J_put (C := True) (x := (b : Int)) fe_153 (by rw [hm]) (Or.inr ⟨hi, hm.symm, rfl⟩) (fun y => by show (∃ k : Nat, vr b = vr k ∧ y = (k : Int)) ↔ _; refine ⟨fun h => ?_, fun h => ⟨b, rfl, h.2⟩⟩; obtain ⟨k, h1, h2⟩ := h; cases h1; exact ⟨trivial, h2⟩) hd).trans (by simp only [true_and])
theorem fe_154 : (11, 80, 11, 12, 638, 0) ∈ fldL := by decide +kernel
theorem g_154 {O : pO} {j n0 : Nat} {Q : pQ} {pc : Nat} {L : pL} {S : List pv} {n : Nat} {M : pM} {a : Nat} (hm : mO j = 11) (hd : decode (mB j) pc = .ok (.getfield 80, 3)) : J O j n0 Q pc L (vr (a + 1) :: S) n M = (ob n a = 11 ∧ J O j n0 Q (pc + 3) L (vr (M a 12).toNat :: S) n M) := J_get fe_154 (by rw [hm]) hd
theorem p_154 {O : pO} {j n0 : Nat} {Q : pQ} {pc : Nat} {L : pL} {S : List pv} {n : Nat} {M : pM} {a b : Nat} (hm : mO j = 11) (hi : (mY j).name = "<init>") (hd : decode (mB j) pc = .ok (.putfield 80, 3)) : J O j n0 Q pc L (vr b :: vr (a + 1) :: S) n M = (ob n a = 11 ∧ J O j n0 Q (pc + 3) L S n (st M a 12 (b : Int))) := (J_put (C := True) (x := (b : Int)) fe_154 (by rw [hm]) (Or.inr ⟨hi, hm.symm, rfl⟩) (fun y => by show (∃ k : Nat, vr b = vr k ∧ y = (k : Int)) ↔ _; refine ⟨fun h => ?_, fun h => ⟨b, rfl, h.2⟩⟩; obtain ⟨k, h1, h2⟩ := h; cases h1; exact ⟨trivial, h2⟩) hd).trans (by simp only [true_and])
theorem fe_155 : (11, 87, 11, 13, 639, 0) ∈ fldL := by decide +kernel
theorem g_155 {O : pO} {j n0 : Nat} {Q : pQ} {pc : Nat} {L : pL} {S : List pv} {n : Nat} {M : pM} {a : Nat} (hm : mO j = 11) (hd : decode (mB j) pc = .ok (.getfield 87, 3)) : J O j n0 Q pc L (vr (a + 1) :: S) n M = (ob n a = 11 ∧ J O j n0 Q (pc + 3) L (vr (M a 13).toNat :: S) n M) := J_get fe_155 (by rw [hm]) hd
theorem p_155 {O : pO} {j n0 : Nat} {Q : pQ} {pc : Nat} {L : pL} {S : List pv} {n : Nat} {M : pM} {a b : Nat} (hm : mO j = 11) (hi : (mY j).name = "<init>") (hd : decode (mB j) pc = .ok (.putfield 87, 3)) : J O j n0 Q pc L (vr b :: vr (a + 1) :: S) n M = (ob n a = 11 ∧ J O j n0 Q (pc + 3) L S n (st M a 13 (b : Int))) := (J_put (C := True) (x := (b : Int)) fe_155 (by rw [hm]) (Or.inr ⟨hi, hm.symm, rfl⟩) (fun y => by show (∃ k : Nat, vr b = vr k ∧ y = (k : Int)) ↔ _; refine ⟨fun h => ?_, fun h => ⟨b, rfl, h.2⟩⟩; obtain ⟨k, h1, h2⟩ := h; cases h1; exact ⟨trivial, h2⟩) hd).trans (by simp only [true_and])
theorem fe_156 : (11, 94, 11, 14, 640, 0) ∈ fldL := by decide +kernel
theorem g_156 {O : pO} {j n0 : Nat} {Q : pQ} {pc : Nat} {L : pL} {S : List pv} {n : Nat} {M : pM} {a : Nat} (hm : mO j = 11) (hd : decode (mB j) pc = .ok (.getfield 94, 3)) : J O j n0 Q pc L (vr (a + 1) :: S) n M = (ob n a = 11 ∧ J O j n0 Q (pc + 3) L (vr (M a 14).toNat :: S) n M) := J_get fe_156 (by rw [hm]) hd
theorem p_156 {O : pO} {j n0 : Nat} {Q : pQ} {pc : Nat} {L : pL} {S : List pv} {n : Nat} {M : pM} {a b : Nat} (hm : mO j = 11) (hi : (mY j).name = "<init>") (hd : decode (mB j) pc = .ok (.putfield 94, 3)) : J O j n0 Q pc L (vr b :: vr (a + 1) :: S) n M = (ob n a = 11 ∧ J O j n0 Q (pc + 3) L S n (st M a 14 (b : Int))) := (J_put (C := True) (x := (b : Int)) fe_156 (by rw [hm]) (Or.inr ⟨hi, hm.symm, rfl⟩) (fun y => by show (∃ k : Nat, vr b = vr k ∧ y = (k : Int)) ↔ _; refine ⟨fun h => ?_, fun h => ⟨b, rfl, h.2⟩⟩; obtain ⟨k, h1, h2⟩ := h; cases h1; exact ⟨trivial, h2⟩) hd).trans (by simp only [true_and])
theorem fe_157 : (11, 101, 11, 15, 641, 0) ∈ fldL := by decide +kernel
theorem g_157 {O : pO} {j n0 : Nat} {Q : pQ} {pc : Nat} {L : pL} {S : List pv} {n : Nat} {M : pM} {a : Nat} (hm : mO j = 11) (hd : decode (mB j) pc = .ok (.getfield 101, 3)) : J O j n0 Q pc L (vr (a + 1) :: S) n M = (ob n a = 11 ∧ J O j n0 Q (pc + 3) L (vr (M a 15).toNat :: S) n M) := J_get fe_157 (by rw [hm]) hd
theorem p_157 {O : pO} {j n0 : Nat} {Q : pQ} {pc : Nat} {L : pL} {S : List pv} {n : Nat} {M : pM} {a b : Nat} (hm : mO j = 11) (hi : (mY j).name = "<init>") (hd : decode (mB j) pc = .ok (.putfield 101, 3)) : J O j n0 Q pc L (vr b :: vr (a + 1) :: S) n M = (ob n a = 11 ∧ J O j n0 Q (pc + 3) L S n (st M a 15 (b : Int))) := (J_put (C := True) (x := (b : Int)) fe_157 (by rw [hm]) (Or.inr ⟨hi, hm.symm, rfl⟩) (fun y => by show (∃ k : Nat, vr b = vr k ∧ y = (k : Int)) ↔ _; refine ⟨fun h => ?_, fun h => ⟨b, rfl, h.2⟩⟩; obtain ⟨k, h1, h2⟩ := h; cases h1; exact ⟨trivial, h2⟩) hd).trans (by simp only [true_and])
theorem fe_158 : (12, 117, 12, 0, 1507, 0) ∈ fldL := by decide +kernel
theorem g_158 {O : pO} {j n0 : Nat} {Q : pQ} {pc : Nat} {L : pL} {S : List pv} {n : Nat} {M : pM} {a : Nat} (hm : mO j = 12) (hd : decode (mB j) pc = .ok (.getfield 117, 3)) : J O j n0 Q pc L (vr (a + 1) :: S) n M = (ob n a = 12 ∧ J O j n0 Q (pc + 3) L (vr (M a 0).toNat :: S) n M) := J_get fe_158 (by rw [hm]) hd
theorem p_158 {O : pO} {j n0 : Nat} {Q : pQ} {pc : Nat} {L : pL} {S : List pv} {n : Nat} {M : pM} {a b : Nat} (hm : mO j = 12) (hi : (mY j).name = "<init>") (hd : decode (mB j) pc = .ok (.putfield 117, 3)) : J O j n0 Q pc L (vr b :: vr (a + 1) :: S) n M = (ob n a = 12 ∧ J O j n0 Q (pc + 3) L S n (st M a 0 (b : Int))) := (J_put (C := True) (x := (b : Int)) fe_158 (by rw [hm]) (Or.inr ⟨hi, hm.symm, rfl⟩) (fun y => by show (∃ k : Nat, vr b = vr k ∧ y = (k : Int)) ↔ _; refine ⟨fun h => ?_, fun h => ⟨b, rfl, h.2⟩⟩; obtain ⟨k, h1, h2⟩ := h; cases h1; exact ⟨trivial, h2⟩) hd).trans (by simp only [true_and])
theorem fe_159 : (12, 7, 12, 1, 1508, 0) ∈ fldL := by decide +kernel
theorem g_159 {O : pO} {j n0 : Nat} {Q : pQ} {pc : Nat} {L : pL} {S : List pv} {n : Nat} {M : pM} {a : Nat} (hm : mO j = 12) (hd : decode (mB j) pc = .ok (.getfield 7, 3)) : J O j n0 Q pc L (vr (a + 1) :: S) n M = (ob n a = 12 ∧ J O j n0 Q (pc + 3) L (vr (M a 1).toNat :: S) n M) := J_get fe_159 (by rw [hm]) hd
theorem p_159 {O : pO} {j n0 : Nat} {Q : pQ} {pc : Nat} {L : pL} {S : List pv} {n : Nat} {M : pM} {a b : Nat} (hm : mO j = 12) (hi : (mY j).name = "<init>") (hd : decode (mB j) pc = .ok (.putfield 7, 3)) : J O j n0 Q pc L (vr b :: vr (a + 1) :: S) n M = (ob n a = 12 ∧ J O j n0 Q (pc + 3) L S n (st M a 1 (b : Int))) := (J_put (C := True) (x := (b : Int)) fe_159 (by rw [hm]) (Or.inr ⟨hi, hm.symm, rfl⟩) (fun y => by show (∃ k : Nat, vr b = vr k ∧ y = (k : Int)) ↔ _; refine ⟨fun h => ?_, fun h => ⟨b, rfl, h.2⟩⟩; obtain ⟨k, h1, h2⟩ := h; cases h1; exact ⟨trivial, h2⟩) hd).trans (by simp only [true_and])
theorem fe_160 : (12, 114, 12, 2, 1509, 0) ∈ fldL := by decide +kernel
theorem g_160 {O : pO} {j n0 : Nat} {Q : pQ} {pc : Nat} {L : pL} {S : List pv} {n : Nat} {M : pM} {a : Nat} (hm : mO j = 12) (hd : decode (mB j) pc = .ok (.getfield 114, 3)) : J O j n0 Q pc L (vr (a + 1) :: S) n M = (ob n a = 12 ∧ J O j n0 Q (pc + 3) L (vi (M a 2) :: S) n M) := J_get fe_160 (by rw [hm]) hd
theorem p_160 {O : pO} {j n0 : Nat} {Q : pQ} {pc : Nat} {L : pL} {S : List pv} {n : Nat} {M : pM} {a : Nat} {x : Int} (hm : mO j = 12) (hd : decode (mB j) pc = .ok (.putfield 114, 3)) : J O j n0 Q pc L (vi x :: vr (a + 1) :: S) n M = (ob n a = 12 ∧ J O j n0 Q (pc + 3) L S n (st M a 2 x)) := (J_put (C := True) (x := x) fe_160 (by rw [hm]) (Or.inl rfl) (fun y => by show (vi x = vi y) ↔ _; simp [eq_comm]) hd).trans (by simp only [true_and])
theorem fe_161 : (12, 1, 12, 3, 1510, 0) ∈ fldL := by decide +kernel
theorem g_161 {O : pO} {j n0 : Nat} {Q : pQ} {pc : Nat} {L : pL} {S : List pv} {n : Nat} {M : pM} {a : Nat} (hm : mO j = 12) (hd : decode (mB j) pc = .ok (.getfield 1, 3)) : J O j n0 Q pc L (vr (a + 1) :: S) n M = (ob n a = 12 ∧ J O j n0 Q (pc + 3) L (vi (M a 3) :: S) n M) := J_get fe_161 (by rw [hm]) hd
theorem p_161 {O : pO} {j n0 : Nat} {Q : pQ} {pc : Nat} {L : pL} {S : List pv} {n : Nat} {M : pM} {a : Nat} {x : Int} (hm : mO j = 12) (hd : decode (mB j) pc = .ok (.putfield 1, 3)) : J O j n0 Q pc L (vi x :: vr (a + 1) :: S) n M = (ob n a = 12 ∧ J O j n0 Q (pc + 3) L S n (st M a 3 x)) := (J_put (C := True) (x := x) fe_161 (by rw [hm]) (Or.inl rfl) (fun y => by show (vi x = vi y) ↔ _; simp [eq_comm]) hd).trans (by simp only [true_and])
theorem fe_162 : (12, 11, 12, 4, 1511, 0) ∈ fldL := by decide +kernel
theorem g_162 {O : pO} {j n0 : Nat} {Q : pQ} {pc : Nat} {L : pL} {S : List pv} {n : Nat} {M : pM} {a : Nat} (hm : mO j = 12) (hd : decode (mB j) pc = .ok (.getfield 11, 3)) : J O j n0 Q pc L (vr (a + 1) :: S) n M = (ob n a = 12 ∧ J O j n0 Q (pc + 3) L (vi (M a 4) :: S) n M) := J_get fe_162 (by rw [hm]) hd
theorem p_162 {O : pO} {j n0 : Nat} {Q : pQ} {pc : Nat} {L : pL} {S : List pv} {n : Nat} {M : pM} {a : Nat} {x : Int} (hm : mO j = 12) (hd : decode (mB j) pc = .ok (.putfield 11, 3)) : J O j n0 Q pc L (vi x :: vr (a + 1) :: S) n M = (ob n a = 12 ∧ J O j n0 Q (pc + 3) L S n (st M a 4 x)) := (J_put (C := True) (x := x) fe_162 (by rw [hm]) (Or.inl rfl) (fun y => by show (vi x = vi y) ↔ _; simp [eq_comm]) hd).trans (by simp only [true_and])
theorem fe_163 : (12, 14, 12, 5, 1512, 0) ∈ fldL := by decide +kernel
theorem g_163 {O : pO} {j n0 : Nat} {Q : pQ} {pc : Nat} {L : pL} {S : List pv} {n : Nat} {M : pM} {a : Nat} (hm : mO j = 12) (hd : decode (mB j) pc = .ok (.getfield 14, 3)) : J O j n0 Q pc L (vr (a + 1) :: S) n M = (ob n a = 12 ∧ J O j n0 Q (pc + 3) L (vi (M a 5) :: S) n M) := J_get fe_163 (by rw [hm]) hd
theorem p_163 {O : pO} {j n0 : Nat} {Q : pQ} {pc : Nat} {L : pL} {S : List pv} {n : Nat} {M : pM} {a : Nat} {x : Int} (hm : mO j = 12) (hd : decode (mB j) pc = .ok (.putfield 14, 3)) : J O j n0 Q pc L (vi x :: vr (a + 1) :: S) n M = (ob n a = 12 ∧ J O j n0 Q (pc + 3) L S n (st M a 5 x)) := (J_put (C := True) (x := x) fe_163 (by rw [hm]) (Or.inl rfl) (fun y => by show (vi x = vi y) ↔ _; simp [eq_comm]) hd).trans (by simp only [true_and])
theorem fe_164 : (12, 68, 12, 6, 1513, 0) ∈ fldL := by decide +kernel
theorem g_164 {O : pO} {j n0 : Nat} {Q : pQ} {pc : Nat} {L : pL} {S : List pv} {n : Nat} {M : pM} {a : Nat} (hm : mO j = 12) (hd : decode (mB j) pc = .ok (.getfield 68, 3)) : J O j n0 Q pc L (vr (a + 1) :: S) n M = (ob n a = 12 ∧ J O j n0 Q (pc + 3) L (vi (M a 6) :: S) n M) := J_get fe_164 (by rw [hm]) hd
theorem p_164 {O : pO} {j n0 : Nat} {Q : pQ} {pc : Nat} {L : pL} {S : List pv} {n : Nat} {M : pM} {a : Nat} {x : Int} (hm : mO j = 12) (hd : decode (mB j) pc = .ok (.putfield 68, 3)) : J O j n0 Q pc L (vi x :: vr (a + 1) :: S) n M = (ob n a = 12 ∧ J O j n0 Q (pc + 3) L S n (st M a 6 x)) := (J_put (C := True) (x := x) fe_164 (by rw [hm]) (Or.inl rfl) (fun y => by show (vi x = vi y) ↔ _; simp [eq_comm]) hd).trans (by simp only [true_and])
theorem fe_165 : (12, 65, 12, 7, 1514, 0) ∈ fldL := by decide +kernel
theorem g_165 {O : pO} {j n0 : Nat} {Q : pQ} {pc : Nat} {L : pL} {S : List pv} {n : Nat} {M : pM} {a : Nat} (hm : mO j = 12) (hd : decode (mB j) pc = .ok (.getfield 65, 3)) : J O j n0 Q pc L (vr (a + 1) :: S) n M = (ob n a = 12 ∧ J O j n0 Q (pc + 3) L (vi (M a 7) :: S) n M) := J_get fe_165 (by rw [hm]) hd
theorem p_165 {O : pO} {j n0 : Nat} {Q : pQ} {pc : Nat} {L : pL} {S : List pv} {n : Nat} {M : pM} {a : Nat} {x : Int} (hm : mO j = 12) (hd : decode (mB j) pc = .ok (.putfield 65, 3)) : J O j n0 Q pc L (vi x :: vr (a + 1) :: S) n M = (ob n a = 12 ∧ J O j n0 Q (pc + 3) L S n (st M a 7 x)) := (J_put (C := True) (x := x) fe_165 (by rw [hm]) (Or.inl rfl) (fun y => by show (vi x = vi y) ↔ _; simp [eq_comm]) hd).trans (by simp only [true_and])
theorem fe_166 : (12, 75, 12, 8, 1515, 0) ∈ fldL := by decide +kernel
theorem g_166 {O : pO} {j n0 : Nat} {Q : pQ} {pc : Nat} {L : pL} {S : List pv} {n : Nat} {M : pM} {a : Nat} (hm : mO j = 12) (hd : decode (mB j) pc = .ok (.getfield 75, 3)) : J O j n0 Q pc L (vr (a + 1) :: S) n M = (ob n a = 12 ∧ J O j n0 Q (pc + 3) L (vi (M a 8) :: S) n M) := J_get fe_166 (by rw [hm]) hd
theorem p_166 {O : pO} {j n0 : Nat} {Q : pQ} {pc : Nat} {L : pL} {S : List pv} {n : Nat} {M : pM} {a : Nat} {x : Int} (hm : mO j = 12) (hd : decode (mB j) pc = .ok (.putfield 75, 3)) : J O j n0 Q pc L (vi x :: vr (a + 1) :: S) n M = (ob n a = 12 ∧ J O j n0 Q (pc + 3) L S n (st M a 8 x)) := (J_put (C := True) (x := x) fe_166 (by rw [hm]) (Or.inl rfl) (fun y => by show (vi x = vi y) ↔ _; simp [eq_comm]) hd).trans (by simp only [true_and])
theorem fe_167 : (12, 93, 12, 9, 1516, 0) ∈ fldL := by decide +kernel
theorem g_167 {O : pO} {j n0 : Nat} {Q : pQ} {pc : Nat} {L : pL} {S : List pv} {n : Nat} {M : pM} {a : Nat} (hm : mO j = 12) (hd : decode (mB j) pc = .ok (.getfield 93, 3)) : J O j n0 Q pc L (vr (a + 1) :: S) n M = (ob n a = 12 ∧ J O j n0 Q (pc + 3) L (vi (M a 9) :: S) n M) := J_get fe_167 (by rw [hm]) hd
theorem p_167 {O : pO} {j n0 : Nat} {Q : pQ} {pc : Nat} {L : pL} {S : List pv} {n : Nat} {M : pM} {a : Nat} {x : Int} (hm : mO j = 12) (hd : decode (mB j) pc = .ok (.putfield 93, 3)) : J O j n0 Q pc L (vi x :: vr (a + 1) :: S) n M = (ob n a = 12 ∧ J O j n0 Q (pc + 3) L S n (st M a 9 x)) := (J_put (C := True) (x := x) fe_167 (by rw [hm]) (Or.inl rfl) (fun y => by show (vi x = vi y) ↔ _; simp [eq_comm]) hd).trans (by simp only [true_and])
theorem fe_168 : (12, 82, 12, 10, 1517, 0) ∈ fldL := by decide +kernel
theorem g_168 {O : pO} {j n0 : Nat} {Q : pQ} {pc : Nat} {L : pL} {S : List pv} {n : Nat} {M : pM} {a : Nat} (hm : mO j = 12) (hd : decode (mB j) pc = .ok (.getfield 82, 3)) : J O j n0 Q pc L (vr (a + 1) :: S) n M = (ob n a = 12 ∧ J O j n0 Q (pc + 3) L (vl (M a 10) :: S) n M) := J_get fe_168 (by rw [hm]) hd
theorem p_168 {O : pO} {j n0 : Nat} {Q : pQ} {pc : Nat} {L : pL} {S : List pv} {n : Nat} {M : pM} {a : Nat} {x : Int} (hm : mO j = 12) (hd : decode (mB j) pc = .ok (.putfield 82, 3)) : J O j n0 Q pc L (vl x :: vr (a + 1) :: S) n M = (ob n a = 12 ∧ J O j n0 Q (pc + 3) L S n (st M a 10 x)) := (J_put (C := True) (x := x) fe_168 (by rw [hm]) (Or.inl rfl) (fun y => by show (vl x = vl y) ↔ _; simp [eq_comm]) hd).trans (by simp only [true_and])
theorem fe_169 : (12, 120, 12, 11, 1518, 0) ∈ fldL := by decide +kernel
theorem g_169 {O : pO} {j n0 : Nat} {Q : pQ} {pc : Nat} {L : pL} {S : List pv} {n : Nat} {M : pM} {a : Nat} (hm : mO j = 12) (hd : decode (mB j) pc = .ok (.getfield 120, 3)) : J O j n0 Q pc L (vr (a + 1) :: S) n M = (ob n a = 12 ∧ J O j n0 Q (pc + 3) L (vr (M a 11).toNat :: S) n M) := J_get fe_169 (by rw [hm]) hd
theorem p_169 {O : pO} {j n0 : Nat} {Q : pQ} {pc : Nat} {L : pL} {S : List pv} {n : Nat} {M : pM} {a b : Nat} (hm : mO j = 12) (hi : (mY j).name = "<init>") (hd : decode (mB j) pc = .ok (.putfield 120, 3)) : J O j n0 Q pc L (vr b :: vr (a + 1) :: S) n M = (ob n a = 12 ∧ J O j n0 Q (pc + 3) L S n (st M a 11 (b : Int))) := (J_put (C := True) (x := (b : Int)) fe_169 (by rw [hm]) (Or.inr ⟨hi, hm.symm, rfl⟩) (fun y => by show (∃ k : Nat, vr b = vr k ∧ y = (k : Int)) ↔ _; refine ⟨fun h => ?_, fun h => ⟨b, rfl, h.2⟩⟩; obtain ⟨k, h1, h2⟩ := h; cases h1; exact ⟨trivial, h2⟩) hd).trans (by simp only [true_and])
theorem fe_170 : (12, 127, 12, 12, 1519, 0) ∈ fldL := by decide +kernel
theorem g_170 {O : pO} {j n0 : Nat} {Q : pQ} {pc : Nat} {L : pL} {S : List pv} {n : Nat} {M : pM} {a : Nat} (hm : mO j = 12) (hd : decode (mB j) pc = .ok (.getfield 127, 3)) : J O j n0 Q pc L (vr (a + 1) :: S) n M = (ob n a = 12 ∧ J O j n0 Q (pc + 3) L (vr (M a 12).toNat :: S) n M) := J_get fe_170 (by rw [hm]) hd
theorem p_170 {O : pO} {j n0 : Nat} {Q : pQ} {pc : Nat} {L : pL} {S : List pv} {n : Nat} {M : pM} {a b : Nat} (hm : mO j = 12) (hi : (mY j).name = "<init>") (hd : decode (mB j) pc = .ok (.putfield 127, 3)) : J O j n0 Q pc L (vr b :: vr (a + 1) :: S) n M = (ob n a = 12 ∧ J O j n0 Q (pc + 3) L S n (st M a 12 (b : Int))) := (J_put (C := True) (x := (b : Int)) fe_170 (by rw [hm]) (Or.inr ⟨hi, hm.symm, rfl⟩) (fun y => by show (∃ k : Nat, vr b = vr k ∧ y = (k : Int)) ↔ _; refine ⟨fun h => ?_, fun h => ⟨b, rfl, h.2⟩⟩; obtain ⟨k, h1, h2⟩ := h; cases h1; exact ⟨trivial, h2⟩) hd).trans (by simp only [true_and])
theorem fe_171 : (12, 130, 12, 13, 1520, 0) ∈ fldL := by decide +kernel
theorem g_171 {O : pO} {j n0 : Nat} {Q : pQ} {pc : Nat} {L : pL} {S : List pv} {n : Nat} {M : pM} {a : Nat} (hm : mO j = 12) (hd : decode (mB j) pc = .ok (.getfield 130, 3)) : J O j n0 Q pc L (vr (a + 1) :: S) n M = (ob n a = 12 ∧ J O j n0 Q (pc + 3) L (vr (M a 13).toNat :: S) n M) := J_get fe_171 (by rw [hm]) hd
theorem p_171 {O : pO} {j n0 : Nat} {Q : pQ} {pc : Nat} {L : pL} {S : List pv} {n : Nat} {M : pM} {a b : Nat} (hm : mO j = 12) (hi : (mY j).name = "<init>") (hd : decode (mB j) pc = .ok (.putfield 130, 3)) : J O j n0 Q pc L (vr b :: vr (a + 1) :: S) n M = (ob n a = 12 ∧ J O j n0 Q (pc + 3) L S n (st M a 13 (b : Int))) := (J_put (C := True) (x := (b : Int)) fe_171 (by rw [hm]) (Or.inr ⟨hi, hm.symm, rfl⟩) (fun y => by show (∃ k : Nat, vr b = vr k ∧ y = (k : Int)) ↔ _; refine ⟨fun h => ?_, fun h => ⟨b, rfl, h.2⟩⟩; obtain ⟨k, h1, h2⟩ := h; cases h1; exact ⟨trivial, h2⟩) hd).trans (by simp only [true_and])
theorem fe_172 : (12, 133, 12, 14, 1521, 0) ∈ fldL := by decide +kernel
theorem g_172 {O : pO} {j n0 : Nat} {Q : pQ} {pc : Nat} {L : pL} {S : List pv} {n : Nat} {M : pM} {a : Nat} (hm : mO j = 12) (hd : decode (mB j) pc = .ok (.getfield 133, 3)) : J O j n0 Q pc L (vr (a + 1) :: S) n M = (ob n a = 12 ∧ J O j n0 Q (pc + 3) L (vr (M a 14).toNat :: S) n M) := J_get fe_172 (by rw [hm]) hd
theorem p_172 {O : pO} {j n0 : Nat} {Q : pQ} {pc : Nat} {L : pL} {S : List pv} {n : Nat} {M : pM} {a b : Nat} (hm : mO j = 12) (hi : (mY j).name = "<init>") (hd : decode (mB j) pc = .ok (.putfield 133, 3)) : J O j n0 Q pc L (vr b :: vr (a + 1) :: S) n M = (ob n a = 12 ∧ J O j n0 Q (pc + 3) L S n (st M a 14 (b : Int))) := (J_put (C := True) (x := (b : Int)) fe_172 (by rw [hm]) (Or.inr ⟨hi, hm.symm, rfl⟩) (fun y => by show (∃ k : Nat, vr b = vr k ∧ y = (k : Int)) ↔ _; refine ⟨fun h => ?_, fun h => ⟨b, rfl, h.2⟩⟩; obtain ⟨k, h1, h2⟩ := h; cases h1; exact ⟨trivial, h2⟩) hd).trans (by simp only [true_and])
theorem fe_173 : (12, 136, 12, 15, 1522, 0) ∈ fldL := by decide +kernel
theorem g_173 {O : pO} {j n0 : Nat} {Q : pQ} {pc : Nat} {L : pL} {S : List pv} {n : Nat} {M : pM} {a : Nat} (hm : mO j = 12) (hd : decode (mB j) pc = .ok (.getfield 136, 3)) : J O j n0 Q pc L (vr (a + 1) :: S) n M = (ob n a = 12 ∧ J O j n0 Q (pc + 3) L (vr (M a 15).toNat :: S) n M) := J_get fe_173 (by rw [hm]) hd
theorem p_173 {O : pO} {j n0 : Nat} {Q : pQ} {pc : Nat} {L : pL} {S : List pv} {n : Nat} {M : pM} {a b : Nat} (hm : mO j = 12) (hi : (mY j).name = "<init>") (hd : decode (mB j) pc = .ok (.putfield 136, 3)) : J O j n0 Q pc L (vr b :: vr (a + 1) :: S) n M = (ob n a = 12 ∧ J O j n0 Q (pc + 3) L S n (st M a 15 (b : Int))) := (J_put (C := True) (x := (b : Int)) fe_173 (by rw [hm]) (Or.inr ⟨hi, hm.symm, rfl⟩) (fun y => by show (∃ k : Nat, vr b = vr k ∧ y = (k : Int)) ↔ _; refine ⟨fun h => ?_, fun h => ⟨b, rfl, h.2⟩⟩; obtain ⟨k, h1, h2⟩ := h; cases h1; exact ⟨trivial, h2⟩) hd).trans (by simp only [true_and])
theorem fe_174 : (12, 139, 12, 16, 1523, 0) ∈ fldL := by decide +kernel
theorem g_174 {O : pO} {j n0 : Nat} {Q : pQ} {pc : Nat} {L : pL} {S : List pv} {n : Nat} {M : pM} {a : Nat} (hm : mO j = 12) (hd : decode (mB j) pc = .ok (.getfield 139, 3)) : J O j n0 Q pc L (vr (a + 1) :: S) n M = (ob n a = 12 ∧ J O j n0 Q (pc + 3) L (vr (M a 16).toNat :: S) n M) := J_get fe_174 (by rw [hm]) hd
theorem p_174 {O : pO} {j n0 : Nat} {Q : pQ} {pc : Nat} {L : pL} {S : List pv} {n : Nat} {M : pM} {a b : Nat} (hm : mO j = 12) (hi : (mY j).name = "<init>") (hd : decode (mB j) pc = .ok (.putfield 139, 3)) : J O j n0 Q pc L (vr b :: vr (a + 1) :: S) n M = (ob n a = 12 ∧ J O j n0 Q (pc + 3) L S n (st M a 16 (b : Int))) := (J_put (C := True) (x := (b : Int)) fe_174 (by rw [hm]) (Or.inr ⟨hi, hm.symm, rfl⟩) (fun y => by show (∃ k : Nat, vr b = vr k ∧ y = (k : Int)) ↔ _; refine ⟨fun h => ?_, fun h => ⟨b, rfl, h.2⟩⟩; obtain ⟨k, h1, h2⟩ := h; cases h1; exact ⟨trivial, h2⟩) hd).trans (by simp only [true_and])
theorem fe_175 : (12, 152, 12, 17, 1524, 0) ∈ fldL := by decide +kernel
theorem g_175 {O : pO} {j n0 : Nat} {Q : pQ} {pc : Nat} {L : pL} {S : List pv} {n : Nat} {M : pM} {a : Nat} (hm : mO j = 12) (hd : decode (mB j) pc = .ok (.getfield 152, 3)) : J O j n0 Q pc L (vr (a + 1) :: S) n M = (ob n a = 12 ∧ J O j n0 Q (pc + 3) L (vr (M a 17).toNat :: S) n M) := J_get fe_175 (by rw [hm]) hd
theorem p_175 {O : pO} {j n0 : Nat} {Q : pQ} {pc : Nat} {L : pL} {S : List pv} {n : Nat} {M : pM} {a b : Nat} (hm : mO j = 12) (hi : (mY j).name = "<init>") (hd : decode (mB j) pc = .ok (.putfield 152, 3)) : J O j n0 Q pc L (vr b :: vr (a + 1) :: S) n M = (ob n a = 12 ∧ J O j n0 Q (pc + 3) L S n (st M a 17 (b : Int))) := (J_put (C := True) (x := (b : Int)) fe_175 (by rw [hm]) (Or.inr ⟨hi, hm.symm, rfl⟩) (fun y => by show (∃ k : Nat, vr b = vr k ∧ y = (k : Int)) ↔ _; refine ⟨fun h => ?_, fun h => ⟨b, rfl, h.2⟩⟩; obtain ⟨k, h1, h2⟩ := h; cases h1; exact ⟨trivial, h2⟩) hd).trans (by simp only [true_and])
theorem fe_176 : (12, 155, 12, 18, 1525, 0) ∈ fldL := by decide +kernel
theorem g_176 {O : pO} {j n0 : Nat} {Q : pQ} {pc : Nat} {L : pL} {S : List pv} {n : Nat} {M : pM} {a : Nat} (hm : mO j = 12) (hd : decode (mB j) pc = .ok (.getfield 155, 3)) : J O j n0 Q pc L (vr (a + 1) :: S) n M = (ob n a = 12 ∧ J O j n0 Q (pc + 3) L (vr (M a 18).toNat :: S) n M) := J_get fe_176 (by rw [hm]) hd
theorem p_176 {O : pO} {j n0 : Nat} {Q : pQ} {pc : Nat} {L : pL} {S : List pv} {n : Nat} {M : pM} {a b : Nat} (hm : mO j = 12) (hi : (mY j).name = "<init>") (hd : decode (mB j) pc = .ok (.putfield 155, 3)) : J O j n0 Q pc L (vr b :: vr (a + 1) :: S) n M = (ob n a = 12 ∧ J O j n0 Q (pc + 3) L S n (st M a 18 (b : Int))) := (J_put (C := True) (x := (b : Int)) fe_176 (by rw [hm]) (Or.inr ⟨hi, hm.symm, rfl⟩) (fun y => by show (∃ k : Nat, vr b = vr k ∧ y = (k : Int)) ↔ _; refine ⟨fun h => ?_, fun h => ⟨b, rfl, h.2⟩⟩; obtain ⟨k, h1, h2⟩ := h; cases h1; exact ⟨trivial, h2⟩) hd).trans (by simp only [true_and])
theorem fe_177 : (12, 158, 12, 19, 1526, 0) ∈ fldL := by decide +kernel
theorem g_177 {O : pO} {j n0 : Nat} {Q : pQ} {pc : Nat} {L : pL} {S : List pv} {n : Nat} {M : pM} {a : Nat} (hm : mO j = 12) (hd : decode (mB j) pc = .ok (.getfield 158, 3)) : J O j n0 Q pc L (vr (a + 1) :: S) n M = (ob n a = 12 ∧ J O j n0 Q (pc + 3) L (vr (M a 19).toNat :: S) n M) := J_get fe_177 (by rw [hm]) hd
theorem p_177 {O : pO} {j n0 : Nat} {Q : pQ} {pc : Nat} {L : pL} {S : List pv} {n : Nat} {M : pM} {a b : Nat} (hm : mO j = 12) (hi : (mY j).name = "<init>") (hd : decode (mB j) pc = .ok (.putfield 158, 3)) : J O j n0 Q pc L (vr b :: vr (a + 1) :: S) n M = (ob n a = 12 ∧ J O j n0 Q (pc + 3) L S n (st M a 19 (b : Int))) := (J_put (C := True) (x := (b : Int)) fe_177 (by rw [hm]) (Or.inr ⟨hi, hm.symm, rfl⟩) (fun y => by show (∃ k : Nat, vr b = vr k ∧ y = (k : Int)) ↔ _; refine ⟨fun h => ?_, fun h => ⟨b, rfl, h.2⟩⟩; obtain ⟨k, h1, h2⟩ := h; cases h1; exact ⟨trivial, h2⟩) hd).trans (by simp only [true_and])
theorem fe_178 : (12, 161, 12, 20, 1527, 0) ∈ fldL := by decide +kernel
theorem g_178 {O : pO} {j n0 : Nat} {Q : pQ} {pc : Nat} {L : pL} {S : List pv} {n : Nat} {M : pM} {a : Nat} (hm : mO j = 12) (hd : decode (mB j) pc = .ok (.getfield 161, 3)) : J O j n0 Q pc L (vr (a + 1) :: S) n M = (ob n a = 12 ∧ J O j n0 Q (pc + 3) L (vr (M a 20).toNat :: S) n M) := J_get fe_178 (by rw [hm]) hd
theorem p_178 {O : pO} {j n0 : Nat} {Q : pQ} {pc : Nat} {L : pL} {S : List pv} {n : Nat} {M : pM} {a b : Nat} (hm : mO j = 12) (hi : (mY j).name = "<init>") (hd : decode (mB j) pc = .ok (.putfield 161, 3)) : J O j n0 Q pc L (vr b :: vr (a + 1) :: S) n M = (ob n a = 12 ∧ J O j n0 Q (pc + 3) L S n (st M a 20 (b : Int))) := (J_put (C := True) (x := (b : Int)) fe_178 (by rw [hm]) (Or.inr ⟨hi, hm.symm, rfl⟩) (fun y => by show (∃ k : Nat, vr b = vr k ∧ y = (k : Int)) ↔ _; refine ⟨fun h => ?_, fun h => ⟨b, rfl, h.2⟩⟩; obtain ⟨k, h1, h2⟩ := h; cases h1; exact ⟨trivial, h2⟩) hd).trans (by simp only [true_and])
theorem fe_179 : (12, 169, 12, 21, 1528, 0) ∈ fldL := by decide +kernel
theorem g_179 {O : pO} {j n0 : Nat} {Q : pQ} {pc : Nat} {L : pL} {S : List pv} {n : Nat} {M : pM} {a : Nat} (hm : mO j = 12) (hd : decode (mB j) pc = .ok (.getfield 169, 3)) : J O j n0 Q pc L (vr (a + 1) :: S) n M = (ob n a = 12 ∧ J O j n0 Q (pc + 3) L (vr (M a 21).toNat :: S) n M) := J_get fe_179 (by rw [hm]) hd
theorem p_179 {O : pO} {j n0 : Nat} {Q : pQ} {pc : Nat} {L : pL} {S : List pv} {n : Nat} {M : pM} {a b : Nat} (hm : mO j = 12) (hi : (mY j).name = "<init>") (hd : decode (mB j) pc = .ok (.putfield 169, 3)) : J O j n0 Q pc L (vr b :: vr (a + 1) :: S) n M = (ob n a = 12 ∧ J O j n0 Q (pc + 3) L S n (st M a 21 (b : Int))) := (J_put (C := True) (x := (b : Int)) fe_179 (by rw [hm]) (Or.inr ⟨hi, hm.symm, rfl⟩) (fun y => by show (∃ k : Nat, vr b = vr k ∧ y = (k : Int)) ↔ _; refine ⟨fun h => ?_, fun h => ⟨b, rfl, h.2⟩⟩; obtain ⟨k, h1, h2⟩ := h; cases h1; exact ⟨trivial, h2⟩) hd).trans (by simp only [true_and])
theorem fe_180 : (12, 172, 12, 22, 1529, 0) ∈ fldL := by decide +kernel
theorem g_180 {O : pO} {j n0 : Nat} {Q : pQ} {pc : Nat} {L : pL} {S : List pv} {n : Nat} {M : pM} {a : Nat} (hm : mO j = 12) (hd : decode (mB j) pc = .ok (.getfield 172, 3)) : J O j n0 Q pc L (vr (a + 1) :: S) n M = (ob n a = 12 ∧ J O j n0 Q (pc + 3) L (vr (M a 22).toNat :: S) n M) := J_get fe_180 (by rw [hm]) hd
theorem p_180 {O : pO} {j n0 : Nat} {Q : pQ} {pc : Nat} {L : pL} {S : List pv} {n : Nat} {M : pM} {a b : Nat} (hm : mO j = 12) (hi : (mY j).name = "<init>") (hd : decode (mB j) pc = .ok (.putfield 172, 3)) : J O j n0 Q pc L (vr b :: vr (a + 1) :: S) n M = (ob n a = 12 ∧ J O j n0 Q (pc + 3) L S n (st M a 22 (b : Int))) := (J_put (C := True) (x := (b : Int)) fe_180 (by rw [hm]) (Or.inr ⟨hi, hm.symm, rfl⟩) (fun y => by show (∃ k : Nat, vr b = vr k ∧ y = (k : Int)) ↔ _; refine ⟨fun h => ?_, fun h => ⟨b, rfl, h.2⟩⟩; obtain ⟨k, h1, h2⟩ := h; cases h1; exact ⟨trivial, h2⟩) hd).trans (by simp only [true_and])
theorem fe_181 : (12, 175, 12, 23, 1530, 0) ∈ fldL := by decide +kernel
theorem g_181 {O : pO} {j n0 : Nat} {Q : pQ} {pc : Nat} {L : pL} {S : List pv} {n : Nat} {M : pM} {a : Nat} (hm : mO j = 12) (hd : decode (mB j) pc = .ok (.getfield 175, 3)) : J O j n0 Q pc L (vr (a + 1) :: S) n M = (ob n a = 12 ∧ J O j n0 Q (pc + 3) L (vr (M a 23).toNat :: S) n M) := J_get fe_181 (by rw [hm]) hd
theorem p_181 {O : pO} {j n0 : Nat} {Q : pQ} {pc : Nat} {L : pL} {S : List pv} {n : Nat} {M : pM} {a b : Nat} (hm : mO j = 12) (hi : (mY j).name = "<init>") (hd : decode (mB j) pc = .ok (.putfield 175, 3)) : J O j n0 Q pc L (vr b :: vr (a + 1) :: S) n M = (ob n a = 12 ∧ J O j n0 Q (pc + 3) L S n (st M a 23 (b : Int))) := (J_put (C := True) (x := (b : Int)) fe_181 (by rw [hm]) (Or.inr ⟨hi, hm.symm, rfl⟩) (fun y => by show (∃ k : Nat, vr b = vr k ∧ y = (k : Int)) ↔ _; refine ⟨fun h => ?_, fun h => ⟨b, rfl, h.2⟩⟩; obtain ⟨k, h1, h2⟩ := h; cases h1; exact ⟨trivial, h2⟩) hd).trans (by simp only [true_and])
theorem fe_182 : (12, 178, 12, 24, 1531, 0) ∈ fldL := by decide +kernel
theorem g_182 {O : pO} {j n0 : Nat} {Q : pQ} {pc : Nat} {L : pL} {S : List pv} {n : Nat} {M : pM} {a : Nat} (hm : mO j = 12) (hd : decode (mB j) pc = .ok (.getfield 178, 3)) : J O j n0 Q pc L (vr (a + 1) :: S) n M = (ob n a = 12 ∧ J O j n0 Q (pc + 3) L (vr (M a 24).toNat :: S) n M) := J_get fe_182 (by rw [hm]) hd
theorem p_182 {O : pO} {j n0 : Nat} {Q : pQ} {pc : Nat} {L : pL} {S : List pv} {n : Nat} {M : pM} {a b : Nat} (hm : mO j = 12) (hi : (mY j).name = "<init>") (hd : decode (mB j) pc = .ok (.putfield 178, 3)) : J O j n0 Q pc L (vr b :: vr (a + 1) :: S) n M = (ob n a = 12 ∧ J O j n0 Q (pc + 3) L S n (st M a 24 (b : Int))) := (J_put (C := True) (x := (b : Int)) fe_182 (by rw [hm]) (Or.inr ⟨hi, hm.symm, rfl⟩) (fun y => by show (∃ k : Nat, vr b = vr k ∧ y = (k : Int)) ↔ _; refine ⟨fun h => ?_, fun h => ⟨b, rfl, h.2⟩⟩; obtain ⟨k, h1, h2⟩ := h; cases h1; exact ⟨trivial, h2⟩) hd).trans (by simp only [true_and])
theorem fe_183 : (12, 181, 12, 25, 1532, 0) ∈ fldL := by decide +kernel
theorem g_183 {O : pO} {j n0 : Nat} {Q : pQ} {pc : Nat} {L : pL} {S : List pv} {n : Nat} {M : pM} {a : Nat} (hm : mO j = 12) (hd : decode (mB j) pc = .ok (.getfield 181, 3)) : J O j n0 Q pc L (vr (a + 1) :: S) n M = (ob n a = 12 ∧ J O j n0 Q (pc + 3) L (vr (M a 25).toNat :: S) n M) := J_get fe_183 (by rw [hm]) hd
theorem p_183 {O : pO} {j n0 : Nat} {Q : pQ} {pc : Nat} {L : pL} {S : List pv} {n : Nat} {M : pM} {a b : Nat} (hm : mO j = 12) (hi : (mY j).name = "<init>") (hd : decode (mB j) pc = .ok (.putfield 181, 3)) : J O j n0 Q pc L (vr b :: vr (a + 1) :: S) n M = (ob n a = 12 ∧ J O j n0 Q (pc + 3) L S n (st M a 25 (b : Int))) := (J_put (C := True) (x := (b : Int)) fe_183 (by rw [hm]) (Or.inr ⟨hi, hm.symm, rfl⟩) (fun y => by show (∃ k : Nat, vr b = vr k ∧ y = (k : Int)) ↔ _; refine ⟨fun h => ?_, fun h => ⟨b, rfl, h.2⟩⟩; obtain ⟨k, h1, h2⟩ := h; cases h1; exact ⟨trivial, h2⟩) hd).trans (by simp only [true_and])
theorem fe_184 : (12, 184, 12, 26, 1533, 0) ∈ fldL := by decide +kernel
theorem g_184 {O : pO} {j n0 : Nat} {Q : pQ} {pc : Nat} {L : pL} {S : List pv} {n : Nat} {M : pM} {a : Nat} (hm : mO j = 12) (hd : decode (mB j) pc = .ok (.getfield 184, 3)) : J O j n0 Q pc L (vr (a + 1) :: S) n M = (ob n a = 12 ∧ J O j n0 Q (pc + 3) L (vr (M a 26).toNat :: S) n M) := J_get fe_184 (by rw [hm]) hd
theorem p_184 {O : pO} {j n0 : Nat} {Q : pQ} {pc : Nat} {L : pL} {S : List pv} {n : Nat} {M : pM} {a b : Nat} (hm : mO j = 12) (hi : (mY j).name = "<init>") (hd : decode (mB j) pc = .ok (.putfield 184, 3)) : J O j n0 Q pc L (vr b :: vr (a + 1) :: S) n M = (ob n a = 12 ∧ J O j n0 Q (pc + 3) L S n (st M a 26 (b : Int))) := (J_put (C := True) (x := (b : Int)) fe_184 (by rw [hm]) (Or.inr ⟨hi, hm.symm, rfl⟩) (fun y => by show (∃ k : Nat, vr b = vr k ∧ y = (k : Int)) ↔ _; refine ⟨fun h => ?_, fun h => ⟨b, rfl, h.2⟩⟩; obtain ⟨k, h1, h2⟩ := h; cases h1; exact ⟨trivial, h2⟩) hd).trans (by simp only [true_and])
theorem fe_185 : (12, 187, 12, 27, 1534, 0) ∈ fldL := by decide +kernel
theorem g_185 {O : pO} {j n0 : Nat} {Q : pQ} {pc : Nat} {L : pL} {S : List pv} {n : Nat} {M : pM} {a : Nat} (hm : mO j = 12) (hd : decode (mB j) pc = .ok (.getfield 187, 3)) : J O j n0 Q pc L (vr (a + 1) :: S) n M = (ob n a = 12 ∧ J O j n0 Q (pc + 3) L (vr (M a 27).toNat :: S) n M) := J_get fe_185 (by rw [hm]) hd
theorem p_185 {O : pO} {j n0 : Nat} {Q : pQ} {pc : Nat} {L : pL} {S : List pv} {n : Nat} {M : pM} {a b : Nat} (hm : mO j = 12) (hi : (mY j).name = "<init>") (hd : decode (mB j) pc = .ok (.putfield 187, 3)) : J O j n0 Q pc L (vr b :: vr (a + 1) :: S) n M = (ob n a = 12 ∧ J O j n0 Q (pc + 3) L S n (st M a 27 (b : Int))) := (J_put (C := True) (x := (b : Int)) fe_185 (by rw [hm]) (Or.inr ⟨hi, hm.symm, rfl⟩) (fun y => by show (∃ k : Nat, vr b = vr k ∧ y = (k : Int)) ↔ _; refine ⟨fun h => ?_, fun h => ⟨b, rfl, h.2⟩⟩; obtain ⟨k, h1, h2⟩ := h; cases h1; exact ⟨trivial, h2⟩) hd).trans (by simp only [true_and])
theorem fe_186 : (12, 190, 12, 28, 1535, 0) ∈ fldL := by decide +kernel
theorem g_186 {O : pO} {j n0 : Nat} {Q : pQ} {pc : Nat} {L : pL} {S : List pv} {n : Nat} {M : pM} {a : Nat} (hm : mO j = 12) (hd : decode (mB j) pc = .ok (.getfield 190, 3)) : J O j n0 Q pc L (vr (a + 1) :: S) n M = (ob n a = 12 ∧ J O j n0 Q (pc + 3) L (vr (M a 28).toNat :: S) n M) := J_get fe_186 (by rw [hm]) hd
theorem p_186 {O : pO} {j n0 : Nat} {Q : pQ} {pc : Nat} {L : pL} {S : List pv} {n : Nat} {M : pM} {a b : Nat} (hm : mO j = 12) (hi : (mY j).name = "<init>") (hd : decode (mB j) pc = .ok (.putfield 190, 3)) : J O j n0 Q pc L (vr b :: vr (a + 1) :: S) n M = (ob n a = 12 ∧ J O j n0 Q (pc + 3) L S n (st M a 28 (b : Int))) := (J_put (C := True) (x := (b : Int)) fe_186 (by rw [hm]) (Or.inr ⟨hi, hm.symm, rfl⟩) (fun y => by show (∃ k : Nat, vr b = vr k ∧ y = (k : Int)) ↔ _; refine ⟨fun h => ?_, fun h => ⟨b, rfl, h.2⟩⟩; obtain ⟨k, h1, h2⟩ := h; cases h1; exact ⟨trivial, h2⟩) hd).trans (by simp only [true_and])
theorem fe_187 : (12, 193, 12, 29, 1536, 0) ∈ fldL := by decide +kernel
theorem g_187 {O : pO} {j n0 : Nat} {Q : pQ} {pc : Nat} {L : pL} {S : List pv} {n : Nat} {M : pM} {a : Nat} (hm : mO j = 12) (hd : decode (mB j) pc = .ok (.getfield 193, 3)) : J O j n0 Q pc L (vr (a + 1) :: S) n M = (ob n a = 12 ∧ J O j n0 Q (pc + 3) L (vr (M a 29).toNat :: S) n M) := J_get fe_187 (by rw [hm]) hd
theorem p_187 {O : pO} {j n0 : Nat} {Q : pQ} {pc : Nat} {L : pL} {S : List pv} {n : Nat} {M : pM} {a b : Nat} (hm : mO j = 12) (hi : (mY j).name = "<init>") (hd : decode (mB j) pc = .ok (.putfield 193, 3)) : J O j n0 Q pc L (vr b :: vr (a + 1) :: S) n M = (ob n a = 12 ∧ J O j n0 Q (pc + 3) L S n (st M a 29 (b : Int))) := (J_put (C := True) (x := (b : Int)) fe_187 (by rw [hm]) (Or.inr ⟨hi, hm.symm, rfl⟩) (fun y => by show (∃ k : Nat, vr b = vr k ∧ y = (k : Int)) ↔ _; refine ⟨fun h => ?_, fun h => ⟨b, rfl, h.2⟩⟩; obtain ⟨k, h1, h2⟩ := h; cases h1; exact ⟨trivial, h2⟩) hd).trans (by simp only [true_and])
theorem fe_188 : (12, 196, 12, 30, 1537, 0) ∈ fldL := by decide +kernel
theorem g_188 {O : pO} {j n0 : Nat} {Q : pQ} {pc : Nat} {L : pL} {S : List pv} {n : Nat} {M : pM} {a : Nat} (hm : mO j = 12) (hd : decode (mB j) pc = .ok (.getfield 196, 3)) : J O j n0 Q pc L (vr (a + 1) :: S) n M = (ob n a = 12 ∧ J O j n0 Q (pc + 3) L (vr (M a 30).toNat :: S) n M) := J_get fe_188 (by rw [hm]) hd
theorem p_188 {O : pO} {j n0 : Nat} {Q : pQ} {pc : Nat} {L : pL} {S : List pv} {n : Nat} {M : pM} {a b : Nat} (hm : mO j = 12) (hi : (mY j).name = "<init>") (hd : decode (mB j) pc = .ok (.putfield 196, 3)) : J O j n0 Q pc L (vr b :: vr (a + 1) :: S) n M = (ob n a = 12 ∧ J O j n0 Q (pc + 3) L S n (st M a 30 (b : Int))) := (J_put (C := True) (x := (b : Int)) fe_188 (by rw [hm]) (Or.inr ⟨hi, hm.symm, rfl⟩) (fun y => by show (∃ k : Nat, vr b = vr k ∧ y = (k : Int)) ↔ _; refine ⟨fun h => ?_, fun h => ⟨b, rfl, h.2⟩⟩; obtain ⟨k, h1, h2⟩ := h; cases h1; exact ⟨trivial, h2⟩) hd).trans (by simp only [true_and])
theorem fe_189 : (12, 146, 12, 31, 1538, 0) ∈ fldL := by decide +kernel
theorem g_189 {O : pO} {j n0 : Nat} {Q : pQ} {pc : Nat} {L : pL} {S : List pv} {n : Nat} {M : pM} {a : Nat} (hm : mO j = 12) (hd : decode (mB j) pc = .ok (.getfield 146, 3)) : J O j n0 Q pc L (vr (a + 1) :: S) n M = (ob n a = 12 ∧ J O j n0 Q (pc + 3) L (vr (M a 31).toNat :: S) n M) := J_get fe_189 (by rw [hm]) hd
theorem p_189 {O : pO} {j n0 : Nat} {Q : pQ} {pc : Nat} {L : pL} {S : List pv} {n : Nat} {M : pM} {a b : Nat} (hm : mO j = 12) (hi : (mY j).name = "<init>") (hd : decode (mB j) pc = .ok (.putfield 146, 3)) : J O j n0 Q pc L (vr b :: vr (a + 1) :: S) n M = (ob n a = 12 ∧ J O j n0 Q (pc + 3) L S n (st M a 31 (b : Int))) := (J_put (C := True) (x := (b : Int)) fe_189 (by rw [hm]) (Or.inr ⟨hi, hm.symm, rfl⟩) (fun y => by show (∃ k : Nat, vr b = vr k ∧ y = (k : Int)) ↔ _; refine ⟨fun h => ?_, fun h => ⟨b, rfl, h.2⟩⟩; obtain ⟨k, h1, h2⟩ := h; cases h1; exact ⟨trivial, h2⟩) hd).trans (by simp only [true_and])
theorem fe_190 : (12, 149, 12, 32, 1539, 0) ∈ fldL := by decide +kernel
theorem g_190 {O : pO} {j n0 : Nat} {Q : pQ} {pc : Nat} {L : pL} {S : List pv} {n : Nat} {M : pM} {a : Nat} (hm : mO j = 12) (hd : decode (mB j) pc = .ok (.getfield 149, 3)) : J O j n0 Q pc L (vr (a + 1) :: S) n M = (ob n a = 12 ∧ J O j n0 Q (pc + 3) L (vr (M a 32).toNat :: S) n M) := J_get fe_190 (by rw [hm]) hd
theorem p_190 {O : pO} {j n0 : Nat} {Q : pQ} {pc : Nat} {L : pL} {S : List pv} {n : Nat} {M : pM} {a b : Nat} (hm : mO j = 12) (hi : (mY j).name = "<init>") (hd : decode (mB j) pc = .ok (.putfield 149, 3)) : J O j n0 Q pc L (vr b :: vr (a + 1) :: S) n M = (ob n a = 12 ∧ J O j n0 Q (pc + 3) L S n (st M a 32 (b : Int))) := (J_put (C := True) (x := (b : Int)) fe_190 (by rw [hm]) (Or.inr ⟨hi, hm.symm, rfl⟩) (fun y => by show (∃ k : Nat, vr b = vr k ∧ y = (k : Int)) ↔ _; refine ⟨fun h => ?_, fun h => ⟨b, rfl, h.2⟩⟩; obtain ⟨k, h1, h2⟩ := h; cases h1; exact ⟨trivial, h2⟩) hd).trans (by simp only [true_and])
theorem fe_191 : (12, 142, 12, 33, 1540, 0) ∈ fldL := by decide +kernel
theorem g_191 {O : pO} {j n0 : Nat} {Q : pQ} {pc : Nat} {L : pL} {S : List pv} {n : Nat} {M : pM} {a : Nat} (hm : mO j = 12) (hd : decode (mB j) pc = .ok (.getfield 142, 3)) : J O j n0 Q pc L (vr (a + 1) :: S) n M = (ob n a = 12 ∧ J O j n0 Q (pc + 3) L (vr (M a 33).toNat :: S) n M) := J_get fe_191 (by rw [hm]) hd
theorem p_191 {O : pO} {j n0 : Nat} {Q : pQ} {pc : Nat} {L : pL} {S : List pv} {n : Nat} {M : pM} {a b : Nat} (hm : mO j = 12) (hi : (mY j).name = "<init>") (hd : decode (mB j) pc = .ok (.putfield 142, 3)) : J O j n0 Q pc L (vr b :: vr (a + 1) :: S) n M = (ob n a = 12 ∧ J O j n0 Q (pc + 3) L S n (st M a 33 (b : Int))) := (J_put (C := True) (x := (b : Int)) fe_191 (by rw [hm]) (Or.inr ⟨hi, hm.symm, rfl⟩) (fun y => by show (∃ k : Nat, vr b = vr k ∧ y = (k : Int)) ↔ _; refine ⟨fun h => ?_, fun h => ⟨b, rfl, h.2⟩⟩; obtain ⟨k, h1, h2⟩ := h; cases h1; exact ⟨trivial, h2⟩) hd).trans (by simp only [true_and])
theorem fe_192 : (12, 322, 12, 34, 1541, 0) ∈ fldL := by decide +kernel
theorem g_192 {O : pO} {j n0 : Nat} {Q : pQ} {pc : Nat} {L : pL} {S : List pv} {n : Nat} {M : pM} {a : Nat} (hm : mO j = 12) (hd : decode (mB j) pc = .ok (.getfield 322, 3)) : J O j n0 Q pc L (vr (a + 1) :: S) n M = (ob n a = 12 ∧ J O j n0 Q (pc + 3) L (vi (M a 34) :: S) n M) := J_get fe_192 (by rw [hm]) hd
theorem p_192 {O : pO} {j n0 : Nat} {Q : pQ} {pc : Nat} {L : pL} {S : List pv} {n : Nat} {M : pM} {a : Nat} {x : Int} (hm : mO j = 12) (hd : decode (mB j) pc = .ok (.putfield 322, 3)) : J O j n0 Q pc L (vi x :: vr (a + 1) :: S) n M = (ob n a = 12 ∧ J O j n0 Q (pc + 3) L S n (st M a 34 x)) := (J_put (C := True) (x := x) fe_192 (by rw [hm]) (Or.inl rfl) (fun y => by show (vi x = vi y) ↔ _; simp [eq_comm]) hd).trans (by simp only [true_and])
theorem fe_193 : (12, 124, 12, 35, 1542, 0) ∈ fldL := by decide +kernel
theorem g_193 {O : pO} {j n0 : Nat} {Q : pQ} {pc : Nat} {L : pL} {S : List pv} {n : Nat} {M : pM} {a : Nat} (hm : mO j = 12) (hd : decode (mB j) pc = .ok (.getfield 124, 3)) : J O j n0 Q pc L (vr (a + 1) :: S) n M = (ob n a = 12 ∧ J O j n0 Q (pc + 3) L (vi (M a 35) :: S) n M) := J_get fe_193 (by rw [hm]) hd
theorem p_193 {O : pO} {j n0 : Nat} {Q : pQ} {pc : Nat} {L : pL} {S : List pv} {n : Nat} {M : pM} {a : Nat} {x : Int} (hm : mO j = 12) (hd : decode (mB j) pc = .ok (.putfield 124, 3)) : J O j n0 Q pc L (vi x :: vr (a + 1) :: S) n M = (ob n a = 12 ∧ J O j n0 Q (pc + 3) L S n (st M a 35 x)) := (J_put (C := True) (x := x) fe_193 (by rw [hm]) (Or.inl rfl) (fun y => by show (vi x = vi y) ↔ _; simp [eq_comm]) hd).trans (by simp only [true_and])
theorem fe_194 : (12, 425, 12, 36, 1543, 0) ∈ fldL := by decide +kernel
theorem g_194 {O : pO} {j n0 : Nat} {Q : pQ} {pc : Nat} {L : pL} {S : List pv} {n : Nat} {M : pM} {a : Nat} (hm : mO j = 12) (hd : decode (mB j) pc = .ok (.getfield 425, 3)) : J O j n0 Q pc L (vr (a + 1) :: S) n M = (ob n a = 12 ∧ J O j n0 Q (pc + 3) L (vi (M a 36) :: S) n M) := J_get fe_194 (by rw [hm]) hd
theorem p_194 {O : pO} {j n0 : Nat} {Q : pQ} {pc : Nat} {L : pL} {S : List pv} {n : Nat} {M : pM} {a : Nat} {x : Int} (hm : mO j = 12) (hd : decode (mB j) pc = .ok (.putfield 425, 3)) : J O j n0 Q pc L (vi x :: vr (a + 1) :: S) n M = (ob n a = 12 ∧ J O j n0 Q (pc + 3) L S n (st M a 36 x)) := (J_put (C := True) (x := x) fe_194 (by rw [hm]) (Or.inl rfl) (fun y => by show (vi x = vi y) ↔ _; simp [eq_comm]) hd).trans (by simp only [true_and])
theorem fe_195 : (12, 428, 12, 37, 1544, 0) ∈ fldL := by decide +kernel
theorem g_195 {O : pO} {j n0 : Nat} {Q : pQ} {pc : Nat} {L : pL} {S : List pv} {n : Nat} {M : pM} {a : Nat} (hm : mO j = 12) (hd : decode (mB j) pc = .ok (.getfield 428, 3)) : J O j n0 Q pc L (vr (a + 1) :: S) n M = (ob n a = 12 ∧ J O j n0 Q (pc + 3) L (vi (M a 37) :: S) n M) := J_get fe_195 (by rw [hm]) hd
theorem p_195 {O : pO} {j n0 : Nat} {Q : pQ} {pc : Nat} {L : pL} {S : List pv} {n : Nat} {M : pM} {a : Nat} {x : Int} (hm : mO j = 12) (hd : decode (mB j) pc = .ok (.putfield 428, 3)) : J O j n0 Q pc L (vi x :: vr (a + 1) :: S) n M = (ob n a = 12 ∧ J O j n0 Q (pc + 3) L S n (st M a 37 x)) := (J_put (C := True) (x := x) fe_195 (by rw [hm]) (Or.inl rfl) (fun y => by show (vi x = vi y) ↔ _; simp [eq_comm]) hd).trans (by simp only [true_and])
theorem fe_196 : (12, 431, 12, 38, 1545, 0) ∈ fldL := by decide +kernel
theorem g_196 {O : pO} {j n0 : Nat} {Q : pQ} {pc : Nat} {L : pL} {S : List pv} {n : Nat} {M : pM} {a : Nat} (hm : mO j = 12) (hd : decode (mB j) pc = .ok (.getfield 431, 3)) : J O j n0 Q pc L (vr (a + 1) :: S) n M = (ob n a = 12 ∧ J O j n0 Q (pc + 3) L (vi (M a 38) :: S) n M) := J_get fe_196 (by rw [hm]) hd
theorem p_196 {O : pO} {j n0 : Nat} {Q : pQ} {pc : Nat} {L : pL} {S : List pv} {n : Nat} {M : pM} {a : Nat} {x : Int} (hm : mO j = 12) (hd : decode (mB j) pc = .ok (.putfield 431, 3)) : J O j n0 Q pc L (vi x :: vr (a + 1) :: S) n M = (ob n a = 12 ∧ J O j n0 Q (pc + 3) L S n (st M a 38 x)) := (J_put (C := True) (x := x) fe_196 (by rw [hm]) (Or.inl rfl) (fun y => by show (vi x = vi y) ↔ _; simp [eq_comm]) hd).trans (by simp only [true_and])
theorem fe_197 : (12, 200, 12, 39, 1546, 0) ∈ fldL := by decide +kernel
theorem g_197 {O : pO} {j n0 : Nat} {Q : pQ} {pc : Nat} {L : pL} {S : List pv} {n : Nat} {M : pM} {a : Nat} (hm : mO j = 12) (hd : decode (mB j) pc = .ok (.getfield 200, 3)) : J O j n0 Q pc L (vr (a + 1) :: S) n M = (ob n a = 12 ∧ J O j n0 Q (pc + 3) L (vr (M a 39).toNat :: S) n M) := J_get fe_197 (by rw [hm]) hd
theorem p_197 {O : pO} {j n0 : Nat} {Q : pQ} {pc : Nat} {L : pL} {S : List pv} {n : Nat} {M : pM} {a b : Nat} (hm : mO j = 12) (hi : (mY j).name = "<init>") (hd : decode (mB j) pc = .ok (.putfield 200, 3)) : J O j n0 Q pc L (vr b :: vr (a + 1) :: S) n M = (ob n a = 12 ∧ J O j n0 Q (pc + 3) L S n (st M a 39 (b : Int))) := (J_put (C := True) (x := (b : Int)) fe_197 (by rw [hm]) (Or.inr ⟨hi, hm.symm, rfl⟩) (fun y => by show (∃ k : Nat, vr b = vr k ∧ y = (k : Int)) ↔ _; refine ⟨fun h => ?_, fun h => ⟨b, rfl, h.2⟩⟩; obtain ⟨k, h1, h2⟩ := h; cases h1; exact ⟨trivial, h2⟩) hd).trans (by simp only [true_and])
theorem fe_198 : (12, 451, 12, 40, 1547, 0) ∈ fldL := by decide +kernel
theorem g_198 {O : pO} {j n0 : Nat} {Q : pQ} {pc : Nat} {L : pL} {S : List pv} {n : Nat} {M : pM} {a : Nat} (hm : mO j = 12) (hd : decode (mB j) pc = .ok (.getfield 451, 3)) : J O j n0 Q pc L (vr (a + 1) :: S) n M = (ob n a = 12 ∧ J O j n0 Q (pc + 3) L (vi (M a 40) :: S) n M) := J_get fe_198 (by rw [hm]) hd
theorem p_198 {O : pO} {j n0 : Nat} {Q : pQ} {pc : Nat} {L : pL} {S : List pv} {n : Nat} {M : pM} {a : Nat} {x : Int} (hm : mO j = 12) (hd : decode (mB j) pc = .ok (.putfield 451, 3)) : J O j n0 Q pc L (vi x :: vr (a + 1) :: S) n M = (ob n a = 12 ∧ J O j n0 Q (pc + 3) L S n (st M a 40 x)) := (J_put (C := True) (x := x) fe_198 (by rw [hm]) (Or.inl rfl) (fun y => by show (vi x = vi y) ↔ _; simp [eq_comm]) hd).trans (by simp only [true_and])
theorem fe_199 : (12, 458, 12, 41, 1548, 0) ∈ fldL := by decide +kernel
theorem g_199 {O : pO} {j n0 : Nat} {Q : pQ} {pc : Nat} {L : pL} {S : List pv} {n : Nat} {M : pM} {a : Nat} (hm : mO j = 12) (hd : decode (mB j) pc = .ok (.getfield 458, 3)) : J O j n0 Q pc L (vr (a + 1) :: S) n M = (ob n a = 12 ∧ J O j n0 Q (pc + 3) L (vi (M a 41) :: S) n M) := J_get fe_199 (by rw [hm]) hd
theorem p_199 {O : pO} {j n0 : Nat} {Q : pQ} {pc : Nat} {L : pL} {S : List pv} {n : Nat} {M : pM} {a : Nat} {x : Int} (hm : mO j = 12) (hd : decode (mB j) pc = .ok (.putfield 458, 3)) : J O j n0 Q pc L (vi x :: vr (a + 1) :: S) n M = (ob n a = 12 ∧ (x = 0 ∨ x = 1) ∧ J O j n0 Q (pc + 3) L S n (st M a 41 x)) := J_put fe_199 (by rw [hm]) (Or.inl rfl) (fun y => utz) hd
theorem fe_200 : (12, 204, 12, 42, 1549, 0) ∈ fldL := by decide +kernel
theorem g_200 {O : pO} {j n0 : Nat} {Q : pQ} {pc : Nat} {L : pL} {S : List pv} {n : Nat} {M : pM} {a : Nat} (hm : mO j = 12) (hd : decode (mB j) pc = .ok (.getfield 204, 3)) : J O j n0 Q pc L (vr (a + 1) :: S) n M = (ob n a = 12 ∧ J O j n0 Q (pc + 3) L (vr (M a 42).toNat :: S) n M) := J_get fe_200 (by rw [hm]) hd
theorem p_200 {O : pO} {j n0 : Nat} {Q : pQ} {pc : Nat} {L : pL} {S : List pv} {n : Nat} {M : pM} {a b : Nat} (hm : mO j = 12) (hi : (mY j).name = "<init>") (hd : decode (mB j) pc = .ok (.putfield 204, 3)) : J O j n0 Q pc L (vr b :: vr (a + 1) :: S) n M = (ob n a = 12 ∧ J O j n0 Q (pc + 3) L S n (st M a 42 (b : Int))) := (J_put (C := True) (x := (b : Int)) fe_200 (by rw [hm]) (Or.inr ⟨hi, hm.symm, rfl⟩) (fun y => by show (∃ k : Nat, vr b = vr k ∧ y = (k : Int)) ↔ _; refine ⟨fun h => ?_, fun h => ⟨b, rfl, h.2⟩⟩; obtain ⟨k, h1, h2⟩ := h; cases h1; exact ⟨trivial, h2⟩) hd).trans (by simp only [true_and])
theorem fe_201 : (12, 207, 12, 43, 1550, 0) ∈ fldL := by decide +kernel
theorem g_201 {O : pO} {j n0 : Nat} {Q : pQ} {pc : Nat} {L : pL} {S : List pv} {n : Nat} {M : pM} {a : Nat} (hm : mO j = 12) (hd : decode (mB j) pc = .ok (.getfield 207, 3)) : J O j n0 Q pc L (vr (a + 1) :: S) n M = (ob n a = 12 ∧ J O j n0 Q (pc + 3) L (vi (M a 43) :: S) n M) := J_get fe_201 (by rw [hm]) hd
theorem p_201 {O : pO} {j n0 : Nat} {Q : pQ} {pc : Nat} {L : pL} {S : List pv} {n : Nat} {M : pM} {a : Nat} {x : Int} (hm : mO j = 12) (hd : decode (mB j) pc = .ok (.putfield 207, 3)) : J O j n0 Q pc L (vi x :: vr (a + 1) :: S) n M = (ob n a = 12 ∧ J O j n0 Q (pc + 3) L S n (st M a 43 x)) := (J_put (C := True) (x := x) fe_201 (by rw [hm]) (Or.inl rfl) (fun y => by show (vi x = vi y) ↔ _; simp [eq_comm]) hd).trans (by simp only [true_and])
theorem fe_202 : (12, 210, 12, 44, 1551, 0) ∈ fldL := by decide +kernel
theorem g_202 {O : pO} {j n0 : Nat} {Q : pQ} {pc : Nat} {L : pL} {S : List pv} {n : Nat} {M : pM} {a : Nat} (hm : mO j = 12) (hd : decode (mB j) pc = .ok (.getfield 210, 3)) : J O j n0 Q pc L (vr (a + 1) :: S) n M = (ob n a = 12 ∧ J O j n0 Q (pc + 3) L (vi (M a 44) :: S) n M) := J_get fe_202 (by rw [hm]) hd
theorem p_202 {O : pO} {j n0 : Nat} {Q : pQ} {pc : Nat} {L : pL} {S : List pv} {n : Nat} {M : pM} {a : Nat} {x : Int} (hm : mO j = 12) (hd : decode (mB j) pc = .ok (.putfield 210, 3)) : J O j n0 Q pc L (vi x :: vr (a + 1) :: S) n M = (ob n a = 12 ∧ J O j n0 Q (pc + 3) L S n (st M a 44 x)) := (J_put (C := True) (x := x) fe_202 (by rw [hm]) (Or.inl rfl) (fun y => by show (vi x = vi y) ↔ _; simp [eq_comm]) hd).trans (by simp only [true_and])
theorem fe_203 : (12, 213, 12, 45, 1552, 0) ∈ fldL := by decide +kernel
theorem g_203 {O : pO} {j n0 : Nat} {Q : pQ} {pc : Nat} {L : pL} {S : List pv} {n : Nat} {M : pM} {a : Nat} (hm : mO j = 12) (hd : decode (mB j) pc = .ok (.getfield 213, 3)) : J O j n0 Q pc L (vr (a + 1) :: S) n M = (ob n a = 12 ∧ J O j n0 Q (pc + 3) L (vr (M a 45).toNat :: S) n M) := J_get fe_203 (by rw [hm]) hd
theorem p_203 {O : pO} {j n0 : Nat} {Q : pQ} {pc : Nat} {L : pL} {S : List pv} {n : Nat} {M : pM} {a b : Nat} (hm : mO j = 12) (hi : (mY j).name = "<init>") (hd : decode (mB j) pc = .ok (.putfield 213, 3)) : J O j n0 Q pc L (vr b :: vr (a + 1) :: S) n M = (ob n a = 12 ∧ J O j n0 Q (pc + 3) L S n (st M a 45 (b : Int))) := (J_put (C := True) (x := (b : Int)) fe_203 (by rw [hm]) (Or.inr ⟨hi, hm.symm, rfl⟩) (fun y => by show (∃ k : Nat, vr b = vr k ∧ y = (k : Int)) ↔ _; refine ⟨fun h => ?_, fun h => ⟨b, rfl, h.2⟩⟩; obtain ⟨k, h1, h2⟩ := h; cases h1; exact ⟨trivial, h2⟩) hd).trans (by simp only [true_and])
theorem fe_204 : (12, 476, 12, 46, 1553, 0) ∈ fldL := by decide +kernel
theorem g_204 {O : pO} {j n0 : Nat} {Q : pQ} {pc : Nat} {L : pL} {S : List pv} {n : Nat} {M : pM} {a : Nat} (hm : mO j = 12) (hd : decode (mB j) pc = .ok (.getfield 476, 3)) : J O j n0 Q pc L (vr (a + 1) :: S) n M = (ob n a = 12 ∧ J O j n0 Q (pc + 3) L (vi (M a 46) :: S) n M) := J_get fe_204 (by rw [hm]) hd
theorem p_204 {O : pO} {j n0 : Nat} {Q : pQ} {pc : Nat} {L : pL} {S : List pv} {n : Nat} {M : pM} {a : Nat} {x : Int} (hm : mO j = 12) (hd : decode (mB j) pc = .ok (.putfield 476, 3)) : J O j n0 Q pc L (vi x :: vr (a + 1) :: S) n M = (ob n a = 12 ∧ J O j n0 Q (pc + 3) L S n (st M a 46 x)) := (J_put (C := True) (x := x) fe_204 (by rw [hm]) (Or.inl rfl) (fun y => by show (vi x = vi y) ↔ _; simp [eq_comm]) hd).trans (by simp only [true_and])
theorem fe_205 : (12, 217, 12, 47, 1554, 0) ∈ fldL := by decide +kernel
theorem g_205 {O : pO} {j n0 : Nat} {Q : pQ} {pc : Nat} {L : pL} {S : List pv} {n : Nat} {M : pM} {a : Nat} (hm : mO j = 12) (hd : decode (mB j) pc = .ok (.getfield 217, 3)) : J O j n0 Q pc L (vr (a + 1) :: S) n M = (ob n a = 12 ∧ J O j n0 Q (pc + 3) L (vr (M a 47).toNat :: S) n M) := J_get fe_205 (by rw [hm]) hd
theorem p_205 {O : pO} {j n0 : Nat} {Q : pQ} {pc : Nat} {L : pL} {S : List pv} {n : Nat} {M : pM} {a b : Nat} (hm : mO j = 12) (hi : (mY j).name = "<init>") (hd : decode (mB j) pc = .ok (.putfield 217, 3)) : J O j n0 Q pc L (vr b :: vr (a + 1) :: S) n M = (ob n a = 12 ∧ J O j n0 Q (pc + 3) L S n (st M a 47 (b : Int))) := (J_put (C := True) (x := (b : Int)) fe_205 (by rw [hm]) (Or.inr ⟨hi, hm.symm, rfl⟩) (fun y => by show (∃ k : Nat, vr b = vr k ∧ y = (k : Int)) ↔ _; refine ⟨fun h => ?_, fun h => ⟨b, rfl, h.2⟩⟩; obtain ⟨k, h1, h2⟩ := h; cases h1; exact ⟨trivial, h2⟩) hd).trans (by simp only [true_and])
theorem fe_206 : (12, 220, 12, 48, 1555, 0) ∈ fldL := by decide +kernel
theorem g_206 {O : pO} {j n0 : Nat} {Q : pQ} {pc : Nat} {L : pL} {S : List pv} {n : Nat} {M : pM} {a : Nat} (hm : mO j = 12) (hd : decode (mB j) pc = .ok (.getfield 220, 3)) : J O j n0 Q pc L (vr (a + 1) :: S) n M = (ob n a = 12 ∧ J O j n0 Q (pc + 3) L (vr (M a 48).toNat :: S) n M) := J_get fe_206 (by rw [hm]) hd
theorem p_206 {O : pO} {j n0 : Nat} {Q : pQ} {pc : Nat} {L : pL} {S : List pv} {n : Nat} {M : pM} {a b : Nat} (hm : mO j = 12) (hi : (mY j).name = "<init>") (hd : decode (mB j) pc = .ok (.putfield 220, 3)) : J O j n0 Q pc L (vr b :: vr (a + 1) :: S) n M = (ob n a = 12 ∧ J O j n0 Q (pc + 3) L S n (st M a 48 (b : Int))) := (J_put (C := True) (x := (b : Int)) fe_206 (by rw [hm]) (Or.inr ⟨hi, hm.symm, rfl⟩) (fun y => by show (∃ k : Nat, vr b = vr k ∧ y = (k : Int)) ↔ _; refine ⟨fun h => ?_, fun h => ⟨b, rfl, h.2⟩⟩; obtain ⟨k, h1, h2⟩ := h; cases h1; exact ⟨trivial, h2⟩) hd).trans (by simp only [true_and])
theorem fe_207 : (12, 223, 12, 49, 1556, 0) ∈ fldL := by decide +kernel
theorem g_207 {O : pO} {j n0 : Nat} {Q : pQ} {pc : Nat} {L : pL} {S : List pv} {n : Nat} {M : pM} {a : Nat} (hm : mO j = 12) (hd : decode (mB j) pc = .ok (.getfield 223, 3)) : J O j n0 Q pc L (vr (a + 1) :: S) n M = (ob n a = 12 ∧ J O j n0 Q (pc + 3) L (vr (M a 49).toNat :: S) n M) := J_get fe_207 (by rw [hm]) hd
theorem p_207 {O : pO} {j n0 : Nat} {Q : pQ} {pc : Nat} {L : pL} {S : List pv} {n : Nat} {M : pM} {a b : Nat} (hm : mO j = 12) (hi : (mY j).name = "<init>") (hd : decode (mB j) pc = .ok (.putfield 223, 3)) : J O j n0 Q pc L (vr b :: vr (a + 1) :: S) n M = (ob n a = 12 ∧ J O j n0 Q (pc + 3) L S n (st M a 49 (b : Int))) := (J_put (C := True) (x := (b : Int)) fe_207 (by rw [hm]) (Or.inr ⟨hi, hm.symm, rfl⟩) (fun y => by show (∃ k : Nat, vr b = vr k ∧ y = (k : Int)) ↔ _; refine ⟨fun h => ?_, fun h => ⟨b, rfl, h.2⟩⟩; obtain ⟨k, h1, h2⟩ := h; cases h1; exact ⟨trivial, h2⟩) hd).trans (by simp only [true_and])
theorem fe_208 : (12, 226, 12, 50, 1557, 0) ∈ fldL := by decide +kernel
theorem g_208 {O : pO} {j n0 : Nat} {Q : pQ} {pc : Nat} {L : pL} {S : List pv} {n : Nat} {M : pM} {a : Nat} (hm : mO j = 12) (hd : decode (mB j) pc = .ok (.getfield 226, 3)) : J O j n0 Q pc L (vr (a + 1) :: S) n M = (ob n a = 12 ∧ J O j n0 Q (pc + 3) L (vr (M a 50).toNat :: S) n M) := J_get fe_208 (by rw [hm]) hd
theorem p_208 {O : pO} {j n0 : Nat} {Q : pQ} {pc : Nat} {L : pL} {S : List pv} {n : Nat} {M : pM} {a b : Nat} (hm : mO j = 12) (hi : (mY j).name = "<init>") (hd : decode (mB j) pc = .ok (.putfield 226, 3)) : J O j n0 Q pc L (vr b :: vr (a + 1) :: S) n M = (ob n a = 12 ∧ J O j n0 Q (pc + 3) L S n (st M a 50 (b : Int))) := (J_put (C := True) (x := (b : Int)) fe_208 (by rw [hm]) (Or.inr ⟨hi, hm.symm, rfl⟩) (fun y => by show (∃ k : Nat, vr b = vr k ∧ y = (k : Int)) ↔ _; refine ⟨fun h => ?_, fun h => ⟨b, rfl, h.2⟩⟩; obtain ⟨k, h1, h2⟩ := h; cases h1; exact ⟨trivial, h2⟩) hd).trans (by simp only [true_and])
theorem fe_209 : (12, 229, 12, 51, 1558, 0) ∈ fldL := by decide +kernel
theorem g_209 {O : pO} {j n0 : Nat} {Q : pQ} {pc : Nat} {L : pL} {S : List pv} {n : Nat} {M : pM} {a : Nat} (hm : mO j = 12) (hd : decode (mB j) pc = .ok (.getfield 229, 3)) : J O j n0 Q pc L (vr (a + 1) :: S) n M = (ob n a = 12 ∧ J O j n0 Q (pc + 3) L (vr (M a 51).toNat :: S) n M) := J_get fe_209 (by rw [hm]) hd
theorem p_209 {O : pO} {j n0 : Nat} {Q : pQ} {pc : Nat} {L : pL} {S : List pv} {n : Nat} {M : pM} {a b : Nat} (hm : mO j = 12) (hi : (mY j).name = "<init>") (hd : decode (mB j) pc = .ok (.putfield 229, 3)) : J O j n0 Q pc L (vr b :: vr (a + 1) :: S) n M = (ob n a = 12 ∧ J O j n0 Q (pc + 3) L S n (st M a 51 (b : Int))) := (J_put (C := True) (x := (b : Int)) fe_209 (by rw [hm]) (Or.inr ⟨hi, hm.symm, rfl⟩) (fun y => by show (∃ k : Nat, vr b = vr k ∧ y = (k : Int)) ↔ _; refine ⟨fun h => ?_, fun h => ⟨b, rfl, h.2⟩⟩; obtain ⟨k, h1, h2⟩ := h; cases h1; exact ⟨trivial, h2⟩) hd).trans (by simp only [true_and])
theorem fe_210 : (12, 497, 12, 52, 1559, 0) ∈ fldL := by decide +kernel
theorem g_210 {O : pO} {j n0 : Nat} {Q : pQ} {pc : Nat} {L : pL} {S : List pv} {n : Nat} {M : pM} {a : Nat} (hm : mO j = 12) (hd : decode (mB j) pc = .ok (.getfield 497, 3)) : J O j n0 Q pc L (vr (a + 1) :: S) n M = (ob n a = 12 ∧ J O j n0 Q (pc + 3) L (vi (M a 52) :: S) n M) := J_get fe_210 (by rw [hm]) hd
theorem p_210 {O : pO} {j n0 : Nat} {Q : pQ} {pc : Nat} {L : pL} {S : List pv} {n : Nat} {M : pM} {a : Nat} {x : Int} (hm : mO j = 12) (hd : decode (mB j) pc = .ok (.putfield 497, 3)) : J O j n0 Q pc L (vi x :: vr (a + 1) :: S) n M = (ob n a = 12 ∧ J O j n0 Q (pc + 3) L S n (st M a 52 x)) := (J_put (C := True) (x := x) fe_210 (by rw [hm]) (Or.inl rfl) (fun y => by show (vi x = vi y) ↔ _; simp [eq_comm]) hd).trans (by simp only [true_and])
theorem fe_211 : (12, 232, 12, 53, 1560, 0) ∈ fldL := by decide +kernel
theorem g_211 {O : pO} {j n0 : Nat} {Q : pQ} {pc : Nat} {L : pL} {S : List pv} {n : Nat} {M : pM} {a : Nat} (hm : mO j = 12) (hd : decode (mB j) pc = .ok (.getfield 232, 3)) : J O j n0 Q pc L (vr (a + 1) :: S) n M = (ob n a = 12 ∧ J O j n0 Q (pc + 3) L (vi (M a 53) :: S) n M) := J_get fe_211 (by rw [hm]) hd
theorem p_211 {O : pO} {j n0 : Nat} {Q : pQ} {pc : Nat} {L : pL} {S : List pv} {n : Nat} {M : pM} {a : Nat} {x : Int} (hm : mO j = 12) (hd : decode (mB j) pc = .ok (.putfield 232, 3)) : J O j n0 Q pc L (vi x :: vr (a + 1) :: S) n M = (ob n a = 12 ∧ J O j n0 Q (pc + 3) L S n (st M a 53 x)) := (J_put (C := True) (x := x) fe_211 (by rw [hm]) (Or.inl rfl) (fun y => by show (vi x = vi y) ↔ _; simp [eq_comm]) hd).trans (by simp only [true_and])
theorem fe_212 : (12, 235, 12, 54, 1561, 0) ∈ fldL := by decide +kernel
theorem g_212 {O : pO} {j n0 : Nat} {Q : pQ} {pc : Nat} {L : pL} {S : List pv} {n : Nat} {M : pM} {a : Nat} (hm : mO j = 12) (hd : decode (mB j) pc = .ok (.getfield 235, 3)) : J O j n0 Q pc L (vr (a + 1) :: S) n M = (ob n a = 12 ∧ J O j n0 Q (pc + 3) L (vi (M a 54) :: S) n M) := J_get fe_212 (by rw [hm]) hd
theorem p_212 {O : pO} {j n0 : Nat} {Q : pQ} {pc : Nat} {L : pL} {S : List pv} {n : Nat} {M : pM} {a : Nat} {x : Int} (hm : mO j = 12) (hd : decode (mB j) pc = .ok (.putfield 235, 3)) : J O j n0 Q pc L (vi x :: vr (a + 1) :: S) n M = (ob n a = 12 ∧ J O j n0 Q (pc + 3) L S n (st M a 54 x)) := (J_put (C := True) (x := x) fe_212 (by rw [hm]) (Or.inl rfl) (fun y => by show (vi x = vi y) ↔ _; simp [eq_comm]) hd).trans (by simp only [true_and])
theorem fe_213 : (12, 238, 12, 55, 1562, 0) ∈ fldL := by decide +kernel
theorem g_213 {O : pO} {j n0 : Nat} {Q : pQ} {pc : Nat} {L : pL} {S : List pv} {n : Nat} {M : pM} {a : Nat} (hm : mO j = 12) (hd : decode (mB j) pc = .ok (.getfield 238, 3)) : J O j n0 Q pc L (vr (a + 1) :: S) n M = (ob n a = 12 ∧ J O j n0 Q (pc + 3) L (vi (M a 55) :: S) n M) := J_get fe_213 (by rw [hm]) hd
theorem p_213 {O : pO} {j n0 : Nat} {Q : pQ} {pc : Nat} {L : pL} {S : List pv} {n : Nat} {M : pM} {a : Nat} {x : Int} (hm : mO j = 12) (hd : decode (mB j) pc = .ok (.putfield 238, 3)) : J O j n0 Q pc L (vi x :: vr (a + 1) :: S) n M = (ob n a = 12 ∧ J O j n0 Q (pc + 3) L S n (st M a 55 x)) := (J_put (C := True) (x := x) fe_213 (by rw [hm]) (Or.inl rfl) (fun y => by show (vi x = vi y) ↔ _; simp [eq_comm]) hd).trans (by simp only [true_and])
theorem fe_214 : (12, 241, 12, 56, 1563, 0) ∈ fldL := by decide +kernel
theorem g_214 {O : pO} {j n0 : Nat} {Q : pQ} {pc : Nat} {L : pL} {S : List pv} {n : Nat} {M : pM} {a : Nat} (hm : mO j = 12) (hd : decode (mB j) pc = .ok (.getfield 241, 3)) : J O j n0 Q pc L (vr (a + 1) :: S) n M = (ob n a = 12 ∧ J O j n0 Q (pc + 3) L (vr (M a 56).toNat :: S) n M) := J_get fe_214 (by rw [hm]) hd
theorem p_214 {O : pO} {j n0 : Nat} {Q : pQ} {pc : Nat} {L : pL} {S : List pv} {n : Nat} {M : pM} {a b : Nat} (hm : mO j = 12) (hi : (mY j).name = "<init>") (hd : decode (mB j) pc = .ok (.putfield 241, 3)) : J O j n0 Q pc L (vr b :: vr (a + 1) :: S) n M = (ob n a = 12 ∧ J O j n0 Q (pc + 3) L S n (st M a 56 (b : Int))) := (J_put (C := True) (x := (b : Int)) fe_214 (by rw [hm]) (Or.inr ⟨hi, hm.symm, rfl⟩) (fun y => by show (∃ k : Nat, vr b = vr k ∧ y = (k : Int)) ↔ _; refine ⟨fun h => ?_, fun h => ⟨b, rfl, h.2⟩⟩; obtain ⟨k, h1, h2⟩ := h; cases h1; exact ⟨trivial, h2⟩) hd).trans (by simp only [true_and])
theorem fe_215 : (12, 244, 12, 57, 1564, 0) ∈ fldL := by decide +kernel
theorem g_215 {O : pO} {j n0 : Nat} {Q : pQ} {pc : Nat} {L : pL} {S : List pv} {n : Nat} {M : pM} {a : Nat} (hm : mO j = 12) (hd : decode (mB j) pc = .ok (.getfield 244, 3)) : J O j n0 Q pc L (vr (a + 1) :: S) n M = (ob n a = 12 ∧ J O j n0 Q (pc + 3) L (vr (M a 57).toNat :: S) n M) := J_get fe_215 (by rw [hm]) hd
theorem p_215 {O : pO} {j n0 : Nat} {Q : pQ} {pc : Nat} {L : pL} {S : List pv} {n : Nat} {M : pM} {a b : Nat} (hm : mO j = 12) (hi : (mY j).name = "<init>") (hd : decode (mB j) pc = .ok (.putfield 244, 3)) : J O j n0 Q pc L (vr b :: vr (a + 1) :: S) n M = (ob n a = 12 ∧ J O j n0 Q (pc + 3) L S n (st M a 57 (b : Int))) := (J_put (C := True) (x := (b : Int)) fe_215 (by rw [hm]) (Or.inr ⟨hi, hm.symm, rfl⟩) (fun y => by show (∃ k : Nat, vr b = vr k ∧ y = (k : Int)) ↔ _; refine ⟨fun h => ?_, fun h => ⟨b, rfl, h.2⟩⟩; obtain ⟨k, h1, h2⟩ := h; cases h1; exact ⟨trivial, h2⟩) hd).trans (by simp only [true_and])
theorem fe_216 : (12, 247, 12, 58, 1565, 0) ∈ fldL := by decide +kernel
theorem g_216 {O : pO} {j n0 : Nat} {Q : pQ} {pc : Nat} {L : pL} {S : List pv} {n : Nat} {M : pM} {a : Nat} (hm : mO j = 12) (hd : decode (mB j) pc = .ok (.getfield 247, 3)) : J O j n0 Q pc L (vr (a + 1) :: S) n M = (ob n a = 12 ∧ J O j n0 Q (pc + 3) L (vr (M a 58).toNat :: S) n M) := J_get fe_216 (by rw [hm]) hd
theorem p_216 {O : pO} {j n0 : Nat} {Q : pQ} {pc : Nat} {L : pL} {S : List pv} {n : Nat} {M : pM} {a b : Nat} (hm : mO j = 12) (hi : (mY j).name = "<init>") (hd : decode (mB j) pc = .ok (.putfield 247, 3)) : J O j n0 Q pc L (vr b :: vr (a + 1) :: S) n M = (ob n a = 12 ∧ J O j n0 Q (pc + 3) L S n (st M a 58 (b : Int))) := (J_put (C := True) (x := (b : Int)) fe_216 (by rw [hm]) (Or.inr ⟨hi, hm.symm, rfl⟩) (fun y => by show (∃ k : Nat, vr b = vr k ∧ y = (k : Int)) ↔ _; refine ⟨fun h => ?_, fun h => ⟨b, rfl, h.2⟩⟩; obtain ⟨k, h1, h2⟩ := h; cases h1; exact ⟨trivial, h2⟩) hd).trans (by simp only [true_and])
theorem fe_217 : (12, 250, 12, 59, 1566, 0) ∈ fldL := by decide +kernel
theorem g_217 {O : pO} {j n0 : Nat} {Q : pQ} {pc : Nat} {L : pL} {S : List pv} {n : Nat} {M : pM} {a : Nat} (hm : mO j = 12) (hd : decode (mB j) pc = .ok (.getfield 250, 3)) : J O j n0 Q pc L (vr (a + 1) :: S) n M = (ob n a = 12 ∧ J O j n0 Q (pc + 3) L (vr (M a 59).toNat :: S) n M) := J_get fe_217 (by rw [hm]) hd
theorem p_217 {O : pO} {j n0 : Nat} {Q : pQ} {pc : Nat} {L : pL} {S : List pv} {n : Nat} {M : pM} {a b : Nat} (hm : mO j = 12) (hi : (mY j).name = "<init>") (hd : decode (mB j) pc = .ok (.putfield 250, 3)) : J O j n0 Q pc L (vr b :: vr (a + 1) :: S) n M = (ob n a = 12 ∧ J O j n0 Q (pc + 3) L S n (st M a 59 (b : Int))) := (J_put (C := True) (x := (b : Int)) fe_217 (by rw [hm]) (Or.inr ⟨hi, hm.symm, rfl⟩) (fun y => by show (∃ k : Nat, vr b = vr k ∧ y = (k : Int)) ↔ _; refine ⟨fun h => ?_, fun h => ⟨b, rfl, h.2⟩⟩; obtain ⟨k, h1, h2⟩ := h; cases h1; exact ⟨trivial, h2⟩) hd).trans (by simp only [true_and])
theorem fe_218 : (12, 253, 12, 60, 1567, 0) ∈ fldL := by decide +kernel
theorem g_218 {O : pO} {j n0 : Nat} {Q : pQ} {pc : Nat} {L : pL} {S : List pv} {n : Nat} {M : pM} {a : Nat} (hm : mO j = 12) (hd : decode (mB j) pc = .ok (.getfield 253, 3)) : J O j n0 Q pc L (vr (a + 1) :: S) n M = (ob n a = 12 ∧ J O j n0 Q (pc + 3) L (vr (M a 60).toNat :: S) n M) := J_get fe_218 (by rw [hm]) hd
theorem p_218 {O : pO} {j n0 : Nat} {Q : pQ} {pc : Nat} {L : pL} {S : List pv} {n : Nat} {M : pM} {a b : Nat} (hm : mO j = 12) (hi : (mY j).name = "<init>") (hd : decode (mB j) pc = .ok (.putfield 253, 3)) : J O j n0 Q pc L (vr b :: vr (a + 1) :: S) n M = (ob n a = 12 ∧ J O j n0 Q (pc + 3) L S n (st M a 60 (b : Int))) := (J_put (C := True) (x := (b : Int)) fe_218 (by rw [hm]) (Or.inr ⟨hi, hm.symm, rfl⟩) (fun y => by show (∃ k : Nat, vr b = vr k ∧ y = (k : Int)) ↔ _; refine ⟨fun h => ?_, fun h => ⟨b, rfl, h.2⟩⟩; obtain ⟨k, h1, h2⟩ := h; cases h1; exact ⟨trivial, h2⟩) hd).trans (by simp only [true_and])
theorem fe_219 : (12, 256, 12, 61, 1568, 0) ∈ fldL := by decide +kernel
theorem g_219 {O : pO} {j n0 : Nat} {Q : pQ} {pc : Nat} {L : pL} {S : List pv} {n : Nat} {M : pM} {a : Nat} (hm : mO j = 12) (hd : decode (mB j) pc = .ok (.getfield 256, 3)) : J O j n0 Q pc L (vr (a + 1) :: S) n M = (ob n a = 12 ∧ J O j n0 Q (pc + 3) L (vr (M a 61).toNat :: S) n M) := J_get fe_219 (by rw [hm]) hd
theorem p_219 {O : pO} {j n0 : Nat} {Q : pQ} {pc : Nat} {L : pL} {S : List pv} {n : Nat} {M : pM} {a b : Nat} (hm : mO j = 12) (hi : (mY j).name = "<init>") (hd : decode (mB j) pc = .ok (.putfield 256, 3)) : J O j n0 Q pc L (vr b :: vr (a + 1) :: S) n M = (ob n a = 12 ∧ J O j n0 Q (pc + 3) L S n (st M a 61 (b : Int))) := (J_put (C := True) (x := (b : Int)) fe_219 (by rw [hm]) (Or.inr ⟨hi, hm.symm, rfl⟩) (fun y => by show (∃ k : Nat, vr b = vr k ∧ y = (k : Int)) ↔ _; refine ⟨fun h => ?_, fun h => ⟨b, rfl, h.2⟩⟩; obtain ⟨k, h1, h2⟩ := h; cases h1; exact ⟨trivial, h2⟩) hd).trans (by simp only [true_and])
theorem fe_220 : (12, 259, 12, 62, 1569, 0) ∈ fldL := by decide +kernel
theorem g_220 {O : pO} {j n0 : Nat} {Q : pQ} {pc : Nat} {L : pL} {S : List pv} {n : Nat} {M : pM} {a : Nat} (hm : mO j = 12) (hd : decode (mB j) pc = .ok (.getfield 259, 3)) : J O j n0 Q pc L (vr (a + 1) :: S) n M = (ob n a = 12 ∧ J O j n0 Q (pc + 3) L (vr (M a 62).toNat :: S) n M) := J_get fe_220 (by rw [hm]) hd
theorem p_220 {O : pO} {j n0 : Nat} {Q : pQ} {pc : Nat} {L : pL} {S : List pv} {n : Nat} {M : pM} {a b : Nat} (hm : mO j = 12) (hi : (mY j).name = "<init>") (hd : decode (mB j) pc = .ok (.putfield 259, 3)) : J O j n0 Q pc L (vr b :: vr (a + 1) :: S) n M = (ob n a = 12 ∧ J O j n0 Q (pc + 3) L S n (st M a 62 (b : Int))) := (J_put (C := True) (x := (b : Int)) fe_220 (by rw [hm]) (Or.inr ⟨hi, hm.symm, rfl⟩) (fun y => by show (∃ k : Nat, vr b = vr k ∧ y = (k : Int)) ↔ _; refine ⟨fun h => ?_, fun h => ⟨b, rfl, h.2⟩⟩; obtain ⟨k, h1, h2⟩ := h; cases h1; exact ⟨trivial, h2⟩) hd).trans (by simp only [true_and])
theorem fe_221 : (12, 262, 12, 63, 1570, 0) ∈ fldL := by decide +kernel
theorem g_221 {O : pO} {j n0 : Nat} {Q : pQ} {pc : Nat} {L : pL} {S : List pv} {n : Nat} {M : pM} {a : Nat} (hm : mO j = 12) (hd : decode (mB j) pc = .ok (.getfield 262, 3)) : J O j n0 Q pc L (vr (a + 1) :: S) n M = (ob n a = 12 ∧ J O j n0 Q (pc + 3) L (vr (M a 63).toNat :: S) n M) := J_get fe_221 (by rw [hm]) hd
theorem p_221 {O : pO} {j n0 : Nat} {Q : pQ} {pc : Nat} {L : pL} {S : List pv} {n : Nat} {M : pM} {a b : Nat} (hm : mO j = 12) (hi : (mY j).name = "<init>") (hd : decode (mB j) pc = .ok (.putfield 262, 3)) : J O j n0 Q pc L (vr b :: vr (a + 1) :: S) n M = (ob n a = 12 ∧ J O j n0 Q (pc + 3) L S n (st M a 63 (b : Int))) := (J_put (C := True) (x := (b : Int)) fe_221 (by rw [hm]) (Or.inr ⟨hi, hm.symm, rfl⟩) (fun y => by show (∃ k : Nat, vr b = vr k ∧ y = (k : Int)) ↔ _; refine ⟨fun h => ?_, fun h => ⟨b, rfl, h.2⟩⟩; obtain ⟨k, h1, h2⟩ := h; cases h1; exact ⟨trivial, h2⟩) hd).trans (by simp only [true_and])
theorem fe_222 : (12, 328, 12, 64, 1571, 0) ∈ fldL := by decide +kernel
theorem g_222 {O : pO} {j n0 : Nat} {Q : pQ} {pc : Nat} {L : pL} {S : List pv} {n : Nat} {M : pM} {a : Nat} (hm : mO j = 12) (hd : decode (mB j) pc = .ok (.getfield 328, 3)) : J O j n0 Q pc L (vr (a + 1) :: S) n M = (ob n a = 12 ∧ J O j n0 Q (pc + 3) L (vi (M a 64) :: S) n M) := J_get fe_222 (by rw [hm]) hd
theorem p_222 {O : pO} {j n0 : Nat} {Q : pQ} {pc : Nat} {L : pL} {S : List pv} {n : Nat} {M : pM} {a : Nat} {x : Int} (hm : mO j = 12) (hd : decode (mB j) pc = .ok (.putfield 328, 3)) : J O j n0 Q pc L (vi x :: vr (a + 1) :: S) n M = (ob n a = 12 ∧ J O j n0 Q (pc + 3) L S n (st M a 64 x)) := (J_put (C := True) (x := x) fe_222 (by rw [hm]) (Or.inl rfl) (fun y => by show (vi x = vi y) ↔ _; simp [eq_comm]) hd).trans (by simp only [true_and])
theorem fe_223 : (12, 331, 12, 65, 1572, 0) ∈ fldL := by decide +kernel
theorem g_223 {O : pO} {j n0 : Nat} {Q : pQ} {pc : Nat} {L : pL} {S : List pv} {n : Nat} {M : pM} {a : Nat} (hm : mO j = 12) (hd : decode (mB j) pc = .ok (.getfield 331, 3)) : J O j n0 Q pc L (vr (a + 1) :: S) n M = (ob n a = 12 ∧ J O j n0 Q (pc + 3) L (vi (M a 65) :: S) n M) := J_get fe_223 (by rw [hm]) hd
theorem p_223 {O : pO} {j n0 : Nat} {Q : pQ} {pc : Nat} {L : pL} {S : List pv} {n : Nat} {M : pM} {a : Nat} {x : Int} (hm : mO j = 12) (hd : decode (mB j) pc = .ok (.putfield 331, 3)) : J O j n0 Q pc L (vi x :: vr (a + 1) :: S) n M = (ob n a = 12 ∧ J O j n0 Q (pc + 3) L S n (st M a 65 x)) := (J_put (C := True) (x := x) fe_223 (by rw [hm]) (Or.inl rfl) (fun y => by show (vi x = vi y) ↔ _; simp [eq_comm]) hd).trans (by simp only [true_and])
theorem fe_224 : (12, 506, 12, 66, 1573, 0) ∈ fldL := by decide +kernel
theorem g_224 {O : pO} {j n0 : Nat} {Q : pQ} {pc : Nat} {L : pL} {S : List pv} {n : Nat} {M : pM} {a : Nat} (hm : mO j = 12) (hd : decode (mB j) pc = .ok (.getfield 506, 3)) : J O j n0 Q pc L (vr (a + 1) :: S) n M = (ob n a = 12 ∧ J O j n0 Q (pc + 3) L (vi (M a 66) :: S) n M) := J_get fe_224 (by rw [hm]) hd
theorem p_224 {O : pO} {j n0 : Nat} {Q : pQ} {pc : Nat} {L : pL} {S : List pv} {n : Nat} {M : pM} {a : Nat} {x : Int} (hm : mO j = 12) (hd : decode (mB j) pc = .ok (.putfield 506, 3)) : J O j n0 Q pc L (vi x :: vr (a + 1) :: S) n M = (ob n a = 12 ∧ J O j n0 Q (pc + 3) L S n (st M a 66 x)) := (J_put (C := True) (x := x) fe_224 (by rw [hm]) (Or.inl rfl) (fun y => by show (vi x = vi y) ↔ _; simp [eq_comm]) hd).trans (by simp only [true_and])
theorem fe_225 : (12, 510, 12, 67, 1574, 0) ∈ fldL := by decide +kernel
theorem g_225 {O : pO} {j n0 : Nat} {Q : pQ} {pc : Nat} {L : pL} {S : List pv} {n : Nat} {M : pM} {a : Nat} (hm : mO j = 12) (hd : decode (mB j) pc = .ok (.getfield 510, 3)) : J O j n0 Q pc L (vr (a + 1) :: S) n M = (ob n a = 12 ∧ J O j n0 Q (pc + 3) L (vi (M a 67) :: S) n M) := J_get fe_225 (by rw [hm]) hd
theorem p_225 {O : pO} {j n0 : Nat} {Q : pQ} {pc : Nat} {L : pL} {S : List pv} {n : Nat} {M : pM} {a : Nat} {x : Int} (hm : mO j = 12) (hd : decode (mB j) pc = .ok (.putfield 510, 3)) : J O j n0 Q pc L (vi x :: vr (a + 1) :: S) n M = (ob n a = 12 ∧ J O j n0 Q (pc + 3) L S n (st M a 67 x)) := (J_put (C := True) (x := x) fe_225 (by rw [hm]) (Or.inl rfl) (fun y => by show (vi x = vi y) ↔ _; simp [eq_comm]) hd).trans (by simp only [true_and])
theorem fe_226 : (12, 265, 12, 68, 1575, 0) ∈ fldL := by decide +kernel
theorem g_226 {O : pO} {j n0 : Nat} {Q : pQ} {pc : Nat} {L : pL} {S : List pv} {n : Nat} {M : pM} {a : Nat} (hm : mO j = 12) (hd : decode (mB j) pc = .ok (.getfield 265, 3)) : J O j n0 Q pc L (vr (a + 1) :: S) n M = (ob n a = 12 ∧ J O j n0 Q (pc + 3) L (vr (M a 68).toNat :: S) n M) := J_get fe_226 (by rw [hm]) hd
theorem p_226 {O : pO} {j n0 : Nat} {Q : pQ} {pc : Nat} {L : pL} {S : List pv} {n : Nat} {M : pM} {a b : Nat} (hm : mO j = 12) (hi : (mY j).name = "<init>") (hd : decode (mB j) pc = .ok (.putfield 265, 3)) : J O j n0 Q pc L (vr b :: vr (a + 1) :: S) n M = (ob n a = 12 ∧ J O j n0 Q (pc + 3) L S n (st M a 68 (b : Int))) := (J_put (C := True) (x := (b : Int)) fe_226 (by rw [hm]) (Or.inr ⟨hi, hm.symm, rfl⟩) (fun y => by show (∃ k : Nat, vr b = vr k ∧ y = (k : Int)) ↔ _; refine ⟨fun h => ?_, fun h => ⟨b, rfl, h.2⟩⟩; obtain ⟨k, h1, h2⟩ := h; cases h1; exact ⟨trivial, h2⟩) hd).trans (by simp only [true_and])
theorem fe_227 : (12, 268, 12, 69, 1576, 0) ∈ fldL := by decide +kernel
theorem g_227 {O : pO} {j n0 : Nat} {Q : pQ} {pc : Nat} {L : pL} {S : List pv} {n : Nat} {M : pM} {a : Nat} (hm : mO j = 12) (hd : decode (mB j) pc = .ok (.getfield 268, 3)) : J O j n0 Q pc L (vr (a + 1) :: S) n M = (ob n a = 12 ∧ J O j n0 Q (pc + 3) L (vr (M a 69).toNat :: S) n M) := J_get fe_227 (by rw [hm]) hd
theorem p_227 {O : pO} {j n0 : Nat} {Q : pQ} {pc : Nat} {L : pL} {S : List pv} {n : Nat} {M : pM} {a b : Nat} (hm : mO j = 12) (hi : (mY j).name = "<init>") (hd : decode (mB j) pc = .ok (.putfield 268, 3)) : J O j n0 Q pc L (vr b :: vr (a + 1) :: S) n M = (ob n a = 12 ∧ J O j n0 Q (pc + 3) L S n (st M a 69 (b : Int))) := (J_put (C := True) (x := (b : Int)) fe_227 (by rw [hm]) (Or.inr ⟨hi, hm.symm, rfl⟩) (fun y => by show (∃ k : Nat, vr b = vr k ∧ y = (k : Int)) ↔ _; refine ⟨fun h => ?_, fun h => ⟨b, rfl, h.2⟩⟩; obtain ⟨k, h1, h2⟩ := h; cases h1; exact ⟨trivial, h2⟩) hd).trans (by simp only [true_and])
theorem fe_228 : (12, 271, 12, 70, 1577, 0) ∈ fldL := by decide +kernel
theorem g_228 {O : pO} {j n0 : Nat} {Q : pQ} {pc : Nat} {L : pL} {S : List pv} {n : Nat} {M : pM} {a : Nat} (hm : mO j = 12) (hd : decode (mB j) pc = .ok (.getfield 271, 3)) : J O j n0 Q pc L (vr (a + 1) :: S) n M = (ob n a = 12 ∧ J O j n0 Q (pc + 3) L (vr (M a 70).toNat :: S) n M) := J_get fe_228 (by rw [hm]) hd
theorem p_228 {O : pO} {j n0 : Nat} {Q : pQ} {pc : Nat} {L : pL} {S : List pv} {n : Nat} {M : pM} {a b : Nat} (hm : mO j = 12) (hi : (mY j).name = "<init>") (hd : decode (mB j) pc = .ok (.putfield 271, 3)) : J O j n0 Q pc L (vr b :: vr (a + 1) :: S) n M = (ob n a = 12 ∧ J O j n0 Q (pc + 3) L S n (st M a 70 (b : Int))) := (J_put (C := True) (x := (b : Int)) fe_228 (by rw [hm]) (Or.inr ⟨hi, hm.symm, rfl⟩) (fun y => by show (∃ k : Nat, vr b = vr k ∧ y = (k : Int)) ↔ _; refine ⟨fun h => ?_, fun h => ⟨b, rfl, h.2⟩⟩; obtain ⟨k, h1, h2⟩ := h; cases h1; exact ⟨trivial, h2⟩) hd).trans (by simp only [true_and])
theorem fe_229 : (12, 274, 12, 71, 1578, 0) ∈ fldL := by decide +kernel
theorem g_229 {O : pO} {j n0 : Nat} {Q : pQ} {pc : Nat} {L : pL} {S : List pv} {n : Nat} {M : pM} {a : Nat} (hm : mO j = 12) (hd : decode (mB j) pc = .ok (.getfield 274, 3)) : J O j n0 Q pc L (vr (a + 1) :: S) n M = (ob n a = 12 ∧ J O j n0 Q (pc + 3) L (vr (M a 71).toNat :: S) n M) := J_get fe_229 (by rw [hm]) hd
theorem p_229 {O : pO} {j n0 : Nat} {Q : pQ} {pc : Nat} {L : pL} {S : List pv} {n : Nat} {M : pM} {a b : Nat} (hm : mO j = 12) (hi : (mY j).name = "<init>") (hd : decode (mB j) pc = .ok (.putfield 274, 3)) : J O j n0 Q pc L (vr b :: vr (a + 1) :: S) n M = (ob n a = 12 ∧ J O j n0 Q (pc + 3) L S n (st M a 71 (b : Int))) := (J_put (C := True) (x := (b : Int)) fe_229 (by rw [hm]) (Or.inr ⟨hi, hm.symm, rfl⟩) (fun y => by show (∃ k : Nat, vr b = vr k ∧ y = (k : Int)) ↔ _; refine ⟨fun h => ?_, fun h => ⟨b, rfl, h.2⟩⟩; obtain ⟨k, h1, h2⟩ := h; cases h1; exact ⟨trivial, h2⟩) hd).trans (by simp only [true_and])
theorem fe_230 : (12, 516, 12, 72, 1579, 0) ∈ fldL := by decide +kernel
theorem g_230 {O : pO} {j n0 : Nat} {Q : pQ} {pc : Nat} {L : pL} {S : List pv} {n : Nat} {M : pM} {a : Nat} (hm : mO j = 12) (hd : decode (mB j) pc = .ok (.getfield 516, 3)) : J O j n0 Q pc L (vr (a + 1) :: S) n M = (ob n a = 12 ∧ J O j n0 Q (pc + 3) L (vi (M a 72) :: S) n M) := J_get fe_230 (by rw [hm]) hd
theorem p_230 {O : pO} {j n0 : Nat} {Q : pQ} {pc : Nat} {L : pL} {S : List pv} {n : Nat} {M : pM} {a : Nat} {x : Int} (hm : mO j = 12) (hd : decode (mB j) pc = .ok (.putfield 516, 3)) : J O j n0 Q pc L (vi x :: vr (a + 1) :: S) n M = (ob n a = 12 ∧ J O j n0 Q (pc + 3) L S n (st M a 72 x)) := (J_put (C := True) (x := x) fe_230 (by rw [hm]) (Or.inl rfl) (fun y => by show (vi x = vi y) ↔ _; simp [eq_comm]) hd).trans (by simp only [true_and])
theorem fe_231 : (12, 277, 12, 73, 1580, 0) ∈ fldL := by decide +kernel
theorem g_231 {O : pO} {j n0 : Nat} {Q : pQ} {pc : Nat} {L : pL} {S : List pv} {n : Nat} {M : pM} {a : Nat} (hm : mO j = 12) (hd : decode (mB j) pc = .ok (.getfield 277, 3)) : J O j n0 Q pc L (vr (a + 1) :: S) n M = (ob n a = 12 ∧ J O j n0 Q (pc + 3) L (vr (M a 73).toNat :: S) n M) := J_get fe_231 (by rw [hm]) hd
theorem p_231 {O : pO} {j n0 : Nat} {Q : pQ} {pc : Nat} {L : pL} {S : List pv} {n : Nat} {M : pM} {a b : Nat} (hm : mO j = 12) (hi : (mY j).name = "<init>") (hd : decode (mB j) pc = .ok (.putfield 277, 3)) : J O j n0 Q pc L (vr b :: vr (a + 1) :: S) n M = (ob n a = 12 ∧ J O j n0 Q (pc + 3) L S n (st M a 73 (b : Int))) := (J_put (C := True) (x := (b : Int)) fe_231 (by rw [hm]) (Or.inr ⟨hi, hm.symm, rfl⟩) (fun y => by show (∃ k : Nat, vr b = vr k ∧ y = (k : Int)) ↔ _; refine ⟨fun h => ?_, fun h => ⟨b, rfl, h.2⟩⟩; obtain ⟨k, h1, h2⟩ := h; cases h1; exact ⟨trivial, h2⟩) hd).trans (by simp only [true_and])
theorem fe_232 : (12, 280, 12, 74, 1581, 0) ∈ fldL := by decide +kernel
theorem g_232 {O : pO} {j n0 : Nat} {Q : pQ} {pc : Nat} {L : pL} {S : List pv} {n : Nat} {M : pM} {a : Nat} (hm : mO j = 12) (hd : decode (mB j) pc = .ok (.getfield 280, 3)) : J O j n0 Q pc L (vr (a + 1) :: S) n M = (ob n a = 12 ∧ J O j n0 Q (pc + 3) L (vr (M a 74).toNat :: S) n M) := J_get fe_232 (by rw [hm]) hd
theorem p_232 {O : pO} {j n0 : Nat} {Q : pQ} {pc : Nat} {L : pL} {S : List pv} {n : Nat} {M : pM} {a b : Nat} (hm : mO j = 12) (hi : (mY j).name = "<init>") (hd : decode (mB j) pc = .ok (.putfield 280, 3)) : J O j n0 Q pc L (vr b :: vr (a + 1) :: S) n M = (ob n a = 12 ∧ J O j n0 Q (pc + 3) L S n (st M a 74 (b : Int))) := (J_put (C := True) (x := (b : Int)) fe_232 (by rw [hm]) (Or.inr ⟨hi, hm.symm, rfl⟩) (fun y => by show (∃ k : Nat, vr b = vr k ∧ y = (k : Int)) ↔ _; refine ⟨fun h => ?_, fun h => ⟨b, rfl, h.2⟩⟩; obtain ⟨k, h1, h2⟩ := h; cases h1; exact ⟨trivial, h2⟩) hd).trans (by simp only [true_and])
theorem fe_233 : (12, 283, 12, 75, 1582, 0) ∈ fldL := by decide +kernel
theorem g_233 {O : pO} {j n0 : Nat} {Q : pQ} {pc : Nat} {L : pL} {S : List pv} {n : Nat} {M : pM} {a : Nat} (hm : mO j = 12) (hd : decode (mB j) pc = .ok (.getfield 283, 3)) : J O j n0 Q pc L (vr (a + 1) :: S) n M = (ob n a = 12 ∧ J O j n0 Q (pc + 3) L (vr (M a 75).toNat :: S) n M) := J_get fe_233 (by rw [hm]) hd
theorem p_233 {O : pO} {j n0 : Nat} {Q : pQ} {pc : Nat} {L : pL} {S : List pv} {n : Nat} {M : pM} {a b : Nat} (hm : mO j = 12) (hi : (mY j).name = "<init>") (hd : decode (mB j) pc = .ok (.putfield 283, 3)) : J O j n0 Q pc L (vr b :: vr (a + 1) :: S) n M = (ob n a = 12 ∧ J O j n0 Q (pc + 3) L S n (st M a 75 (b : Int))) := (J_put (C := True) (x := (b : Int)) fe_233 (by rw [hm]) (Or.inr ⟨hi, hm.symm, rfl⟩) (fun y => by show (∃ k : Nat, vr b = vr k ∧ y = (k : Int)) ↔ _; refine ⟨fun h => ?_, fun h => ⟨b, rfl, h.2⟩⟩; obtain ⟨k, h1, h2⟩ := h; cases h1; exact ⟨trivial, h2⟩) hd).trans (by simp only [true_and])
theorem fe_234 : (12, 286, 12, 76, 1583, 0) ∈ fldL := by decide +kernel
theorem g_234 {O : pO} {j n0 : Nat} {Q : pQ} {pc : Nat} {L : pL} {S : List pv} {n : Nat} {M : pM} {a : Nat} (hm : mO j = 12) (hd : decode (mB j) pc = .ok (.getfield 286, 3)) : J O j n0 Q pc L (vr (a + 1) :: S) n M = (ob n a = 12 ∧ J O j n0 Q (pc + 3) L (vr (M a 76).toNat :: S) n M) := J_get fe_234 (by rw [hm]) hd
theorem p_234 {O : pO} {j n0 : Nat} {Q : pQ} {pc : Nat} {L : pL} {S : List pv} {n : Nat} {M : pM} {a b : Nat} (hm : mO j = 12) (hi : (mY j).name = "<init>") (hd : decode (mB j) pc = .ok (.putfield 286, 3)) : J O j n0 Q pc L (vr b :: vr (a + 1) :: S) n M = (ob n a = 12 ∧ J O j n0 Q (pc + 3) L S n (st M a 76 (b : Int))) := (J_put (C := True) (x := (b : Int)) fe_234 (by rw [hm]) (Or.inr ⟨hi, hm.symm, rfl⟩) (fun y => by show (∃ k : Nat, vr b = vr k ∧ y = (k : Int)) ↔ _; refine ⟨fun h => ?_, fun h => ⟨b, rfl, h.2⟩⟩; obtain ⟨k, h1, h2⟩ := h; cases h1; exact ⟨trivial, h2⟩) hd).trans (by simp only [true_and])
theorem fe_235 : (12, 289, 12, 77, 1584, 0) ∈ fldL := by decide +kernel
theorem g_235 {O : pO} {j n0 : Nat} {Q : pQ} {pc : Nat} {L : pL} {S : List pv} {n : Nat} {M : pM} {a : Nat} (hm : mO j = 12) (hd : decode (mB j) pc = .ok (.getfield 289, 3)) : J O j n0 Q pc L (vr (a + 1) :: S) n M = (ob n a = 12 ∧ J O j n0 Q (pc + 3) L (vr (M a 77).toNat :: S) n M) := J_get fe_235 (by rw [hm]) hd
theorem p_235 {O : pO} {j n0 : Nat} {Q : pQ} {pc : Nat} {L : pL} {S : List pv} {n : Nat} {M : pM} {a b : Nat} (hm : mO j = 12) (hi : (mY j).name = "<init>") (hd : decode (mB j) pc = .ok (.putfield 289, 3)) : J O j n0 Q pc L (vr b :: vr (a + 1) :: S) n M = (ob n a = 12 ∧ J O j n0 Q (pc + 3) L S n (st M a 77 (b : Int))) := (J_put (C := True) (x := (b : Int)) fe_235 (by rw [hm]) (Or.inr ⟨hi, hm.symm, rfl⟩) (fun y => by show (∃ k : Nat, vr b = vr k ∧ y = (k : Int)) ↔ _; refine ⟨fun h => ?_, fun h => ⟨b, rfl, h.2⟩⟩; obtain ⟨k, h1, h2⟩ := h; cases h1; exact ⟨trivial, h2⟩) hd).trans (by simp only [true_and])
theorem fe_236 : (12, 292, 12, 78, 1585, 0) ∈ fldL := by decide +kernel
theorem g_236 {O : pO} {j n0 : Nat} {Q : pQ} {pc : Nat} {L : pL} {S : List pv} {n : Nat} {M : pM} {a : Nat} (hm : mO j = 12) (hd : decode (mB j) pc = .ok (.getfield 292, 3)) : J O j n0 Q pc L (vr (a + 1) :: S) n M = (ob n a = 12 ∧ J O j n0 Q (pc + 3) L (vr (M a 78).toNat :: S) n M) := J_get fe_236 (by rw [hm]) hd
theorem p_236 {O : pO} {j n0 : Nat} {Q : pQ} {pc : Nat} {L : pL} {S : List pv} {n : Nat} {M : pM} {a b : Nat} (hm : mO j = 12) (hi : (mY j).name = "<init>") (hd : decode (mB j) pc = .ok (.putfield 292, 3)) : J O j n0 Q pc L (vr b :: vr (a + 1) :: S) n M = (ob n a = 12 ∧ J O j n0 Q (pc + 3) L S n (st M a 78 (b : Int))) := (J_put (C := True) (x := (b : Int)) fe_236 (by rw [hm]) (Or.inr ⟨hi, hm.symm, rfl⟩) (fun y => by show (∃ k : Nat, vr b = vr k ∧ y = (k : Int)) ↔ _; refine ⟨fun h => ?_, fun h => ⟨b, rfl, h.2⟩⟩; obtain ⟨k, h1, h2⟩ := h; cases h1; exact ⟨trivial, h2⟩) hd).trans (by simp only [true_and])
theorem fe_237 : (12, 295, 12, 79, 1586, 0) ∈ fldL := by decide +kernel
theorem g_237 {O : pO} {j n0 : Nat} {Q : pQ} {pc : Nat} {L : pL} {S : List pv} {n : Nat} {M : pM} {a : Nat} (hm : mO j = 12) (hd : decode (mB j) pc = .ok (.getfield 295, 3)) : J O j n0 Q pc L (vr (a + 1) :: S) n M = (ob n a = 12 ∧ J O j n0 Q (pc + 3) L (vr (M a 79).toNat :: S) n M) := J_get fe_237 (by rw [hm]) hd
theorem p_237 {O : pO} {j n0 : Nat} {Q : pQ} {pc : Nat} {L : pL} {S : List pv} {n : Nat} {M : pM} {a b : Nat} (hm : mO j = 12) (hi : (mY j).name = "<init>") (hd : decode (mB j) pc = .ok (.putfield 295, 3)) : J O j n0 Q pc L (vr b :: vr (a + 1) :: S) n M = (ob n a = 12 ∧ J O j n0 Q (pc + 3) L S n (st M a 79 (b : Int))) := (J_put (C := True) (x := (b : Int)) fe_237 (by rw [hm]) (Or.inr ⟨hi, hm.symm, rfl⟩) (fun y => by show (∃ k : Nat, vr b = vr k ∧ y = (k : Int)) ↔ _; refine ⟨fun h => ?_, fun h => ⟨b, rfl, h.2⟩⟩; obtain ⟨k, h1, h2⟩ := h; cases h1; exact ⟨trivial, h2⟩) hd).trans (by simp only [true_and])
theorem fe_238 : (12, 558, 12, 80, 1587, 0) ∈ fldL := by decide +kernel
theorem g_238 {O : pO} {j n0 : Nat} {Q : pQ} {pc : Nat} {L : pL} {S : List pv} {n : Nat} {M : pM} {a : Nat} (hm : mO j = 12) (hd : decode (mB j) pc = .ok (.getfield 558, 3)) : J O j n0 Q pc L (vr (a + 1) :: S) n M = (ob n a = 12 ∧ J O j n0 Q (pc + 3) L (vi (M a 80) :: S) n M) := J_get fe_238 (by rw [hm]) hd
theorem p_238 {O : pO} {j n0 : Nat} {Q : pQ} {pc : Nat} {L : pL} {S : List pv} {n : Nat} {M : pM} {a : Nat} {x : Int} (hm : mO j = 12) (hd : decode (mB j) pc = .ok (.putfield 558, 3)) : J O j n0 Q pc L (vi x :: vr (a + 1) :: S) n M = (ob n a = 12 ∧ J O j n0 Q (pc + 3) L S n (st M a 80 x)) := (J_put (C := True) (x := x) fe_238 (by rw [hm]) (Or.inl rfl) (fun y => by show (vi x = vi y) ↔ _; simp [eq_comm]) hd).trans (by simp only [true_and])
theorem fe_239 : (12, 561, 12, 81, 1588, 0) ∈ fldL := by decide +kernel
theorem g_239 {O : pO} {j n0 : Nat} {Q : pQ} {pc : Nat} {L : pL} {S : List pv} {n : Nat} {M : pM} {a : Nat} (hm : mO j = 12) (hd : decode (mB j) pc = .ok (.getfield 561, 3)) : J O j n0 Q pc L (vr (a + 1) :: S) n M = (ob n a = 12 ∧ J O j n0 Q (pc + 3) L (vi (M a 81) :: S) n M) := J_get fe_239 (by rw [hm]) hd
theorem p_239 {O : pO} {j n0 : Nat} {Q : pQ} {pc : Nat} {L : pL} {S : List pv} {n : Nat} {M : pM} {a : Nat} {x : Int} (hm : mO j = 12) (hd : decode (mB j) pc = .ok (.putfield 561, 3)) : J O j n0 Q pc L (vi x :: vr (a + 1) :: S) n M = (ob n a = 12 ∧ J O j n0 Q (pc + 3) L S n (st M a 81 x)) := (J_put (C := True) (x := x) fe_239 (by rw [hm]) (Or.inl rfl) (fun y => by show (vi x = vi y) ↔ _; simp [eq_comm]) hd).trans (by simp only [true_and])
theorem fe_240 : (12, 564, 12, 82, 1589, 0) ∈ fldL := by decide +kernel
theorem g_240 {O : pO} {j n0 : Nat} {Q : pQ} {pc : Nat} {L : pL} {S : List pv} {n : Nat} {M : pM} {a : Nat} (hm : mO j = 12) (hd : decode (mB j) pc = .ok (.getfield 564, 3)) : J O j n0 Q pc L (vr (a + 1) :: S) n M = (ob n a = 12 ∧ J O j n0 Q (pc + 3) L (vi (M a 82) :: S) n M) := J_get fe_240 (by rw [hm]) hd
theorem p_240 {O : pO} {j n0 : Nat} {Q : pQ} {pc : Nat} {L : pL} {S : List pv} {n : Nat} {M : pM} {a : Nat} {x : Int} (hm : mO j = 12) (hd : decode (mB j) pc = .ok (.putfield 564, 3)) : J O j n0 Q pc L (vi x :: vr (a + 1) :: S) n M = (ob n a = 12 ∧ J O j n0 Q (pc + 3) L S n (st M a 82 x)) := (J_put (C := True) (x := x) fe_240 (by rw [hm]) (Or.inl rfl) (fun y => by show (vi x = vi y) ↔ _; simp [eq_comm]) hd).trans (by simp only [true_and])
theorem fe_241 : (12, 576, 12, 83, 1590, 0) ∈ fldL := by decide +kernel
theorem g_241 {O : pO} {j n0 : Nat} {Q : pQ} {pc : Nat} {L : pL} {S : List pv} {n : Nat} {M : pM} {a : Nat} (hm : mO j = 12) (hd : decode (mB j) pc = .ok (.getfield 576, 3)) : J O j n0 Q pc L (vr (a + 1) :: S) n M = (ob n a = 12 ∧ J O j n0 Q (pc + 3) L (vi (M a 83) :: S) n M) := J_get fe_241 (by rw [hm]) hd
theorem p_241 {O : pO} {j n0 : Nat} {Q : pQ} {pc : Nat} {L : pL} {S : List pv} {n : Nat} {M : pM} {a : Nat} {x : Int} (hm : mO j = 12) (hd : decode (mB j) pc = .ok (.putfield 576, 3)) : J O j n0 Q pc L (vi x :: vr (a + 1) :: S) n M = (ob n a = 12 ∧ J O j n0 Q (pc + 3) L S n (st M a 83 x)) := (J_put (C := True) (x := x) fe_241 (by rw [hm]) (Or.inl rfl) (fun y => by show (vi x = vi y) ↔ _; simp [eq_comm]) hd).trans (by simp only [true_and])
theorem fe_242 : (12, 573, 12, 84, 1591, 0) ∈ fldL := by decide +kernel
theorem g_242 {O : pO} {j n0 : Nat} {Q : pQ} {pc : Nat} {L : pL} {S : List pv} {n : Nat} {M : pM} {a : Nat} (hm : mO j = 12) (hd : decode (mB j) pc = .ok (.getfield 573, 3)) : J O j n0 Q pc L (vr (a + 1) :: S) n M = (ob n a = 12 ∧ J O j n0 Q (pc + 3) L (vi (M a 84) :: S) n M) := J_get fe_242 (by rw [hm]) hd
theorem p_242 {O : pO} {j n0 : Nat} {Q : pQ} {pc : Nat} {L : pL} {S : List pv} {n : Nat} {M : pM} {a : Nat} {x : Int} (hm : mO j = 12) (hd : decode (mB j) pc = .ok (.putfield 573, 3)) : J O j n0 Q pc L (vi x :: vr (a + 1) :: S) n M = (ob n a = 12 ∧ J O j n0 Q (pc + 3) L S n (st M a 84 x)) := (J_put (C := True) (x := x) fe_242 (by rw [hm]) (Or.inl rfl) (fun y => by show (vi x = vi y) ↔ _; simp [eq_comm]) hd).trans (by simp only [true_and])
theorem fe_243 : (12, 570, 12, 85, 1592, 0) ∈ fldL := by decide +kernel
theorem g_243 {O : pO} {j n0 : Nat} {Q : pQ} {pc : Nat} {L : pL} {S : List pv} {n : Nat} {M : pM} {a : Nat} (hm : mO j = 12) (hd : decode (mB j) pc = .ok (.getfield 570, 3)) : J O j n0 Q pc L (vr (a + 1) :: S) n M = (ob n a = 12 ∧ J O j n0 Q (pc + 3) L (vi (M a 85) :: S) n M) := J_get fe_243 (by rw [hm]) hd
theorem p_243 {O : pO} {j n0 : Nat} {Q : pQ} {pc : Nat} {L : pL} {S : List pv} {n : Nat} {M : pM} {a : Nat} {x : Int} (hm : mO j = 12) (hd : decode (mB j) pc = .ok (.putfield 570, 3)) : J O j n0 Q pc L (vi x :: vr (a + 1) :: S) n M = (ob n a = 12 ∧ (x = 0 ∨ x = 1) ∧ J O j n0 Q (pc + 3) L S n (st M a 85 x)) := J_put fe_243 (by rw [hm]) (Or.inl rfl) (fun y => utz) hd
theorem fe_244 : (12, 600, 12, 86, 1593, 0) ∈ fldL := by decide +kernel
theorem g_244 {O : pO} {j n0 : Nat} {Q : pQ} {pc : Nat} {L : pL} {S : List pv} {n : Nat} {M : pM} {a : Nat} (hm : mO j = 12) (hd : decode (mB j) pc = .ok (.getfield 600, 3)) : J O j n0 Q pc L (vr (a + 1) :: S) n M = (ob n a = 12 ∧ J O j n0 Q (pc + 3) L (vi (M a 86) :: S) n M) := J_get fe_244 (by rw [hm]) hd
theorem p_244 {O : pO} {j n0 : Nat} {Q : pQ} {pc : Nat} {L : pL} {S : List pv} {n : Nat} {M : pM} {a : Nat} {x : Int} (hm : mO j = 12) (hd : decode (mB j) pc = .ok (.putfield 600, 3)) : J O j n0 Q pc L (vi x :: vr (a + 1) :: S) n M = (ob n a = 12 ∧ J O j n0 Q (pc + 3) L S n (st M a 86 x)) := (J_put (C := True) (x := x) fe_244 (by rw [hm]) (Or.inl rfl) (fun y => by show (vi x = vi y) ↔ _; simp [eq_comm]) hd).trans (by simp only [true_and])
theorem fe_245 : (12, 603, 12, 87, 1594, 0) ∈ fldL := by decide +kernel
theorem g_245 {O : pO} {j n0 : Nat} {Q : pQ} {pc : Nat} {L : pL} {S : List pv} {n : Nat} {M : pM} {a : Nat} (hm : mO j = 12) (hd : decode (mB j) pc = .ok (.getfield 603, 3)) : J O j n0 Q pc L (vr (a + 1) :: S) n M = (ob n a = 12 ∧ J O j n0 Q (pc + 3) L (vi (M a 87) :: S) n M) := J_get fe_245 (by rw [hm]) hd
theorem p_245 {O : pO} {j n0 : Nat} {Q : pQ} {pc : Nat} {L : pL} {S : List pv} {n : Nat} {M : pM} {a : Nat} {x : Int} (hm : mO j = 12) (hd : decode (mB j) pc = .ok (.putfield 603, 3)) : J O j n0 Q pc L (vi x :: vr (a + 1) :: S) n M = (ob n a = 12 ∧ J O j n0 Q (pc + 3) L S n (st M a 87 x)) := (J_put (C := True) (x := x) fe_245 (by rw [hm]) (Or.inl rfl) (fun y => by show (vi x = vi y) ↔ _; simp [eq_comm]) hd).trans (by simp only [true_and])
theorem fe_246 : (12, 606, 12, 88, 1595, 0) ∈ fldL := by decide +kernel
theorem g_246 {O : pO} {j n0 : Nat} {Q : pQ} {pc : Nat} {L : pL} {S : List pv} {n : Nat} {M : pM} {a : Nat} (hm : mO j = 12) (hd : decode (mB j) pc = .ok (.getfield 606, 3)) : J O j n0 Q pc L (vr (a + 1) :: S) n M = (ob n a = 12 ∧ J O j n0 Q (pc + 3) L (vi (M a 88) :: S) n M) := J_get fe_246 (by rw [hm]) hd
theorem p_246 {O : pO} {j n0 : Nat} {Q : pQ} {pc : Nat} {L : pL} {S : List pv} {n : Nat} {M : pM} {a : Nat} {x : Int} (hm : mO j = 12) (hd : decode (mB j) pc = .ok (.putfield 606, 3)) : J O j n0 Q pc L (vi x :: vr (a + 1) :: S) n M = (ob n a = 12 ∧ J O j n0 Q (pc + 3) L S n (st M a 88 x)) := (J_put (C := True) (x := x) fe_246 (by rw [hm]) (Or.inl rfl) (fun y => by show (vi x = vi y) ↔ _; simp [eq_comm]) hd).trans (by simp only [true_and])
theorem fe_247 : (12, 609, 12, 89, 1596, 0) ∈ fldL := by decide +kernel
theorem g_247 {O : pO} {j n0 : Nat} {Q : pQ} {pc : Nat} {L : pL} {S : List pv} {n : Nat} {M : pM} {a : Nat} (hm : mO j = 12) (hd : decode (mB j) pc = .ok (.getfield 609, 3)) : J O j n0 Q pc L (vr (a + 1) :: S) n M = (ob n a = 12 ∧ J O j n0 Q (pc + 3) L (vi (M a 89) :: S) n M) := J_get fe_247 (by rw [hm]) hd
theorem p_247 {O : pO} {j n0 : Nat} {Q : pQ} {pc : Nat} {L : pL} {S : List pv} {n : Nat} {M : pM} {a : Nat} {x : Int} (hm : mO j = 12) (hd : decode (mB j) pc = .ok (.putfield 609, 3)) : J O j n0 Q pc L (vi x :: vr (a + 1) :: S) n M = (ob n a = 12 ∧ J O j n0 Q (pc + 3) L S n (st M a 89 x)) := (J_put (C := True) (x := x) fe_247 (by rw [hm]) (Or.inl rfl) (fun y => by show (vi x = vi y) ↔ _; simp [eq_comm]) hd).trans (by simp only [true_and])
theorem fe_248 : (12, 612, 12, 90, 1597, 0) ∈ fldL := by decide +kernel
theorem g_248 {O : pO} {j n0 : Nat} {Q : pQ} {pc : Nat} {L : pL} {S : List pv} {n : Nat} {M : pM} {a : Nat} (hm : mO j = 12) (hd : decode (mB j) pc = .ok (.getfield 612, 3)) : J O j n0 Q pc L (vr (a + 1) :: S) n M = (ob n a = 12 ∧ J O j n0 Q (pc + 3) L (vi (M a 90) :: S) n M) := J_get fe_248 (by rw [hm]) hd
theorem p_248 {O : pO} {j n0 : Nat} {Q : pQ} {pc : Nat} {L : pL} {S : List pv} {n : Nat} {M : pM} {a : Nat} {x : Int} (hm : mO j = 12) (hd : decode (mB j) pc = .ok (.putfield 612, 3)) : J O j n0 Q pc L (vi x :: vr (a + 1) :: S) n M = (ob n a = 12 ∧ J O j n0 Q (pc + 3) L S n (st M a 90 x)) := (J_put (C := True) (x := x) fe_248 (by rw [hm]) (Or.inl rfl) (fun y => by show (vi x = vi y) ↔ _; simp [eq_comm]) hd).trans (by simp only [true_and])
theorem fe_249 : (12, 615, 12, 91, 1598, 0) ∈ fldL := by decide +kernel
theorem g_249 {O : pO} {j n0 : Nat} {Q : pQ} {pc : Nat} {L : pL} {S : List pv} {n : Nat} {M : pM} {a : Nat} (hm : mO j = 12) (hd : decode (mB j) pc = .ok (.getfield 615, 3)) : J O j n0 Q pc L (vr (a + 1) :: S) n M = (ob n a = 12 ∧ J O j n0 Q (pc + 3) L (vi (M a 91) :: S) n M) := J_get fe_249 (by rw [hm]) hd
theorem p_249 {O : pO} {j n0 : Nat} {Q : pQ} {pc : Nat} {L : pL} {S : List pv} {n : Nat} {M : pM} {a : Nat} {x : Int} (hm : mO j = 12) (hd : decode (mB j) pc = .ok (.putfield 615, 3)) : J O j n0 Q pc L (vi x :: vr (a + 1) :: S) n M = (ob n a = 12 ∧ J O j n0 Q (pc + 3) L S n (st M a 91 x)) := (J_put (C := True) (x := x) fe_249 (by rw [hm]) (Or.inl rfl) (fun y => by show (vi x = vi y) ↔ _; simp [eq_comm]) hd).trans (by simp only [true_and])
theorem fe_250 : (12, 618, 12, 92, 1599, 0) ∈ fldL := by decide +kernel
theorem g_250 {O : pO} {j n0 : Nat} {Q : pQ} {pc : Nat} {L : pL} {S : List pv} {n : Nat} {M : pM} {a : Nat} (hm : mO j = 12) (hd : decode (mB j) pc = .ok (.getfield 618, 3)) : J O j n0 Q pc L (vr (a + 1) :: S) n M = (ob n a = 12 ∧ J O j n0 Q (pc + 3) L (vi (M a 92) :: S) n M) := J_get fe_250 (by rw [hm]) hd
theorem p_250 {O : pO} {j n0 : Nat} {Q : pQ} {pc : Nat} {L : pL} {S : List pv} {n : Nat} {M : pM} {a : Nat} {x : Int} (hm : mO j = 12) (hd : decode (mB j) pc = .ok (.putfield 618, 3)) : J O j n0 Q pc L (vi x :: vr (a + 1) :: S) n M = (ob n a = 12 ∧ J O j n0 Q (pc + 3) L S n (st M a 92 x)) := (J_put (C := True) (x := x) fe_250 (by rw [hm]) (Or.inl rfl) (fun y => by show (vi x = vi y) ↔ _; simp [eq_comm]) hd).trans (by simp only [true_and])
theorem fe_251 : (12, 621, 12, 93, 1600, 0) ∈ fldL := by decide +kernel
theorem g_251 {O : pO} {j n0 : Nat} {Q : pQ} {pc : Nat} {L : pL} {S : List pv} {n : Nat} {M : pM} {a : Nat} (hm : mO j = 12) (hd : decode (mB j) pc = .ok (.getfield 621, 3)) : J O j n0 Q pc L (vr (a + 1) :: S) n M = (ob n a = 12 ∧ J O j n0 Q (pc + 3) L (vi (M a 93) :: S) n M) := J_get fe_251 (by rw [hm]) hd
theorem p_251 {O : pO} {j n0 : Nat} {Q : pQ} {pc : Nat} {L : pL} {S : List pv} {n : Nat} {M : pM} {a : Nat} {x : Int} (hm : mO j = 12) (hd : decode (mB j) pc = .ok (.putfield 621, 3)) : J O j n0 Q pc L (vi x :: vr (a + 1) :: S) n M = (ob n a = 12 ∧ J O j n0 Q (pc + 3) L S n (st M a 93 x)) := (J_put (C := True) (x := x) fe_251 (by rw [hm]) (Or.inl rfl) (fun y => by show (vi x = vi y) ↔ _; simp [eq_comm]) hd).trans (by simp only [true_and])
theorem fe_252 : (12, 298, 12, 94, 1601, 0) ∈ fldL := by decide +kernel
theorem g_252 {O : pO} {j n0 : Nat} {Q : pQ} {pc : Nat} {L : pL} {S : List pv} {n : Nat} {M : pM} {a : Nat} (hm : mO j = 12) (hd : decode (mB j) pc = .ok (.getfield 298, 3)) : J O j n0 Q pc L (vr (a + 1) :: S) n M = (ob n a = 12 ∧ J O j n0 Q (pc + 3) L (vr (M a 94).toNat :: S) n M) := J_get fe_252 (by rw [hm]) hd
theorem p_252 {O : pO} {j n0 : Nat} {Q : pQ} {pc : Nat} {L : pL} {S : List pv} {n : Nat} {M : pM} {a b : Nat} (hm : mO j = 12) (hi : (mY j).name = "<init>") (hd : decode (mB j) pc = .ok (.putfield 298, 3)) : J O j n0 Q pc L (vr b :: vr (a + 1) :: S) n M = (ob n a = 12 ∧ J O j n0 Q (pc + 3) L S n (st M a 94 (b : Int))) := (J_put (C := True) (x := (b : Int)) fe_252 (by rw [hm]) (Or.inr ⟨hi, hm.symm, rfl⟩) (fun y => by show (∃ k : Nat, vr b = vr k ∧ y = (k : Int)) ↔ _; refine ⟨fun h => ?_, fun h => ⟨b, rfl, h.2⟩⟩; obtain ⟨k, h1, h2⟩ := h; cases h1; exact ⟨trivial, h2⟩) hd).trans (by simp only [true_and])
theorem fe_253 : (12, 301, 12, 95, 1602, 0) ∈ fldL := by decide +kernel
theorem g_253 {O : pO} {j n0 : Nat} {Q : pQ} {pc : Nat} {L : pL} {S : List pv} {n : Nat} {M : pM} {a : Nat} (hm : mO j = 12) (hd : decode (mB j) pc = .ok (.getfield 301, 3)) : J O j n0 Q pc L (vr (a + 1) :: S) n M = (ob n a = 12 ∧ J O j n0 Q (pc + 3) L (vr (M a 95).toNat :: S) n M) := J_get fe_253 (by rw [hm]) hd
theorem p_253 {O : pO} {j n0 : Nat} {Q : pQ} {pc : Nat} {L : pL} {S : List pv} {n : Nat} {M : pM} {a b : Nat} (hm : mO j = 12) (hi : (mY j).name = "<init>") (hd : decode (mB j) pc = .ok (.putfield 301, 3)) : J O j n0 Q pc L (vr b :: vr (a + 1) :: S) n M = (ob n a = 12 ∧ J O j n0 Q (pc + 3) L S n (st M a 95 (b : Int))) := (J_put (C := True) (x := (b : Int)) fe_253 (by rw [hm]) (Or.inr ⟨hi, hm.symm, rfl⟩) (fun y => by show (∃ k : Nat, vr b = vr k ∧ y = (k : Int)) ↔ _; refine ⟨fun h => ?_, fun h => ⟨b, rfl, h.2⟩⟩; obtain ⟨k, h1, h2⟩ := h; cases h1; exact ⟨trivial, h2⟩) hd).trans (by simp only [true_and])
theorem fe_254 : (12, 304, 12, 96, 1603, 0) ∈ fldL := by decide +kernel
theorem g_254 {O : pO} {j n0 : Nat} {Q : pQ} {pc : Nat} {L : pL} {S : List pv} {n : Nat} {M : pM} {a : Nat} (hm : mO j = 12) (hd : decode (mB j) pc = .ok (.getfield 304, 3)) : J O j n0 Q pc L (vr (a + 1) :: S) n M = (ob n a = 12 ∧ J O j n0 Q (pc + 3) L (vr (M a 96).toNat :: S) n M) := J_get fe_254 (by rw [hm]) hd
theorem p_254 {O : pO} {j n0 : Nat} {Q : pQ} {pc : Nat} {L : pL} {S : List pv} {n : Nat} {M : pM} {a b : Nat} (hm : mO j = 12) (hi : (mY j).name = "<init>") (hd : decode (mB j) pc = .ok (.putfield 304, 3)) : J O j n0 Q pc L (vr b :: vr (a + 1) :: S) n M = (ob n a = 12 ∧ J O j n0 Q (pc + 3) L S n (st M a 96 (b : Int))) := (J_put (C := True) (x := (b : Int)) fe_254 (by rw [hm]) (Or.inr ⟨hi, hm.symm, rfl⟩) (fun y => by show (∃ k : Nat, vr b = vr k ∧ y = (k : Int)) ↔ _; refine ⟨fun h => ?_, fun h => ⟨b, rfl, h.2⟩⟩; obtain ⟨k, h1, h2⟩ := h; cases h1; exact ⟨trivial, h2⟩) hd).trans (by simp only [true_and])
theorem fe_255 : (12, 307, 12, 97, 1604, 0) ∈ fldL := by decide +kernel
theorem g_255 {O : pO} {j n0 : Nat} {Q : pQ} {pc : Nat} {L : pL} {S : List pv} {n : Nat} {M : pM} {a : Nat} (hm : mO j = 12) (hd : decode (mB j) pc = .ok (.getfield 307, 3)) : J O j n0 Q pc L (vr (a + 1) :: S) n M = (ob n a = 12 ∧ J O j n0 Q (pc + 3) L (vr (M a 97).toNat :: S) n M) := J_get fe_255 (by rw [hm]) hd
theorem p_255 {O : pO} {j n0 : Nat} {Q : pQ} {pc : Nat} {L : pL} {S : List pv} {n : Nat} {M : pM} {a b : Nat} (hm : mO j = 12) (hi : (mY j).name = "<init>") (hd : decode (mB j) pc = .ok (.putfield 307, 3)) : J O j n0 Q pc L (vr b :: vr (a + 1) :: S) n M = (ob n a = 12 ∧ J O j n0 Q (pc + 3) L S n (st M a 97 (b : Int))) := (J_put (C := True) (x := (b : Int)) fe_255 (by rw [hm]) (Or.inr ⟨hi, hm.symm, rfl⟩) (fun y => by show (∃ k : Nat, vr b = vr k ∧ y = (k : Int)) ↔ _; refine ⟨fun h => ?_, fun h => ⟨b, rfl, h.2⟩⟩; obtain ⟨k, h1, h2⟩ := h; cases h1; exact ⟨trivial, h2⟩) hd).trans (by simp only [true_and])
theorem fe_256 : (12, 310, 12, 98, 1605, 0) ∈ fldL := by decide +kernel
theorem g_256 {O : pO} {j n0 : Nat} {Q : pQ} {pc : Nat} {L : pL} {S : List pv} {n : Nat} {M : pM} {a : Nat} (hm : mO j = 12) (hd : decode (mB j) pc = .ok (.getfield 310, 3)) : J O j n0 Q pc L (vr (a + 1) :: S) n M = (ob n a = 12 ∧ J O j n0 Q (pc + 3) L (vr (M a 98).toNat :: S) n M) := J_get fe_256 (by rw [hm]) hd
theorem p_256 {O : pO} {j n0 : Nat} {Q : pQ} {pc : Nat} {L : pL} {S : List pv} {n : Nat} {M : pM} {a b : Nat} (hm : mO j = 12) (hi : (mY j).name = "<init>") (hd : decode (mB j) pc = .ok (.putfield 310, 3)) : J O j n0 Q pc L (vr b :: vr (a + 1) :: S) n M = (ob n a = 12 ∧ J O j n0 Q (pc + 3) L S n (st M a 98 (b : Int))) := (J_put (C := True) (x := (b : Int)) fe_256 (by rw [hm]) (Or.inr ⟨hi, hm.symm, rfl⟩) (fun y => by show (∃ k : Nat, vr b = vr k ∧ y = (k : Int)) ↔ _; refine ⟨fun h => ?_, fun h => ⟨b, rfl, h.2⟩⟩; obtain ⟨k, h1, h2⟩ := h; cases h1; exact ⟨trivial, h2⟩) hd).trans (by simp only [true_and])
theorem fe_257 : (12, 334, 12, 99, 1606, 0) ∈ fldL := by decide +kernel
theorem g_257 {O : pO} {j n0 : Nat} {Q : pQ} {pc : Nat} {L : pL} {S : List pv} {n : Nat} {M : pM} {a : Nat} (hm : mO j = 12) (hd : decode (mB j) pc = .ok (.getfield 334, 3)) : J O j n0 Q pc L (vr (a + 1) :: S) n M = (ob n a = 12 ∧ J O j n0 Q (pc + 3) L (vi (M a 99) :: S) n M) := J_get fe_257 (by rw [hm]) hd
theorem p_257 {O : pO} {j n0 : Nat} {Q : pQ} {pc : Nat} {L : pL} {S : List pv} {n : Nat} {M : pM} {a : Nat} {x : Int} (hm : mO j = 12) (hd : decode (mB j) pc = .ok (.putfield 334, 3)) : J O j n0 Q pc L (vi x :: vr (a + 1) :: S) n M = (ob n a = 12 ∧ J O j n0 Q (pc + 3) L S n (st M a 99 x)) := (J_put (C := True) (x := x) fe_257 (by rw [hm]) (Or.inl rfl) (fun y => by show (vi x = vi y) ↔ _; simp [eq_comm]) hd).trans (by simp only [true_and])
theorem J_callE {O : pO} {j n0 : Nat} {Q : pQ} {pc : Nat} {L : pL} {S : List pv} {n : Nat} {M : pM} {ix b i : Nat} {As : List pv} {q : Nat × Nat × Nat × Nat × Nat × Nat} (hq : q ∈ calL) (e : (q.1, q.2.1) = (mO j, ix)) (e3 : q.2.2.1 = 2) (ei : q.2.2.2.1 = i) (hA : As.length = mA i) (hmr : mR i = none) (hno : ∀ q ∈ obiL, ¬ (q.1 = mO j ∧ q.2.1 = ix)) (hd : decode (mB j) pc = .ok (.invokespecial ix, 3)) : J O j n0 Q pc L (As.reverse ++ vr (b + 1) :: S) n M = (ob n b = mO i ∧ stk S ≤ 8 ∧ n + mC i ≤ n0 + mC j ∧ mo O i (vr (b + 1) :: As) n M (kV O j n0 Q (pc + 3) L S (n + mC i))) := by
  refine propext ⟨fun h => ?_, fun h => J_callI hq e e3 ei hA hmr hd h.1 h.2.1 h.2.2.1 h.2.2.2⟩
  subst ei
  rw [J_of hd (fun h => h)] at h
  obtain ⟨-, ⟨x, hx, h1, h2, -⟩ | ⟨x, hx, h1, h2, -, As', b', S', h4, h5, h6, h7, h8, -, h9⟩⟩ := h
  · exact absurd ⟨h1, h2⟩ (hno x hx)
  · have : x = q := uq_of cal_u x hx q hq (by rw [show (x.1, x.2.1) = (mO j, ix) from by rw [h1, h2], e])
    subst this
    have hl : As.reverse.length = As'.reverse.length := by rw [List.length_reverse, List.length_reverse, hA, h5]
    obtain ⟨g1, g2⟩ := List.append_inj h4 hl
    cases g2
    have g1 := List.reverse_inj.mp g1
    subst g1
    exact ⟨h6, h7, h8, h9⟩
theorem J_objE {O : pO} {j n0 : Nat} {Q : pQ} {pc : Nat} {L : pL} {S : List pv} {n : Nat} {M : pM} {ix b : Nat} {q : Nat × Nat × Nat} (hq : q ∈ obiL) (e : (q.1, q.2.1) = (mO j, ix)) (hnc : ∀ q ∈ calL, ¬ (q.1 = mO j ∧ q.2.1 = ix)) (hd : decode (mB j) pc = .ok (.invokespecial ix, 3)) : J O j n0 Q pc L (vr (b + 1) :: S) n M = (stk S ≤ 8 ∧ J O j n0 Q (pc + 3) L S n M) := by
  refine propext ⟨fun h => ?_, fun h => J_obj hq e hd h.1 h.2⟩
  rw [J_of hd (fun h => h)] at h
  obtain ⟨-, ⟨x, hx, h1, h2, b', S', h3, h4, h5⟩ | ⟨x, hx, h1, h2, -⟩⟩ := h
  · cases h3; exact ⟨h4, h5⟩
  · exact absurd ⟨h1, h2⟩ (hnc x hx)
theorem ce_0 : (13, 9, 2, 128, 213, 0) ∈ calL := by decide +kernel
theorem c_0 {O : pO} {j n0 : Nat} {Q : pQ} {pc : Nat} {L : pL} {S : List pv} {n : Nat} {M : pM} {b : Nat} (hm : mO j = 13) (hd : decode (mB j) pc = .ok (.invokespecial 9, 3)) : J O j n0 Q pc L (vr (b + 1) :: S) n M = (ob n b = 11 ∧ stk S ≤ 8 ∧ n + 60 ≤ n0 + mC j ∧ mo O 128 [vr (b + 1)] n M (kV O j n0 Q (pc + 3) L S (n + 60))) := J_callE (As := []) ce_0 (by rw [hm]) rfl rfl rfl rfl (by rw [hm]; decide +kernel) hd
theorem ce_1 : (11, 15, 2, 82, 221, 1) ∈ calL := by decide +kernel
theorem c_1 {O : pO} {j n0 : Nat} {Q : pQ} {pc : Nat} {L : pL} {S : List pv} {n : Nat} {M : pM} {b : Nat} {v1 : pv} (hm : mO j = 11) (hd : decode (mB j) pc = .ok (.invokespecial 15, 3)) : J O j n0 Q pc L (v1 :: vr (b + 1) :: S) n M = (ob n b = 7 ∧ stk S ≤ 8 ∧ n + 0 ≤ n0 + mC j ∧ mo O 82 [vr (b + 1), v1] n M (kV O j n0 Q (pc + 3) L S (n + 0))) := J_callE (As := [v1]) ce_1 (by rw [hm]) rfl rfl rfl rfl (by rw [hm]; decide +kernel) hd
theorem ce_2 : (11, 24, 2, 47, 262, 1) ∈ calL := by decide +kernel
theorem c_2 {O : pO} {j n0 : Nat} {Q : pQ} {pc : Nat} {L : pL} {S : List pv} {n : Nat} {M : pM} {b : Nat} (hm : mO j = 11) (hd : decode (mB j) pc = .ok (.invokespecial 24, 3)) : J O j n0 Q pc L (vr (b + 1) :: S) n M = (ob n b = 4 ∧ stk S ≤ 8 ∧ n + 8 ≤ n0 + mC j ∧ mo O 47 [vr (b + 1)] n M (kV O j n0 Q (pc + 3) L S (n + 8))) := J_callE (As := []) ce_2 (by rw [hm]) rfl rfl rfl rfl (by rw [hm]; decide +kernel) hd
theorem ce_3 : (4, 37, 1, 322, 266, 0) ∈ calL := by decide +kernel
theorem c_3 {O : pO} {j n0 : Nat} {Q : pQ} {pc : Nat} {L : pL} {S : List pv} {n : Nat} {M : pM} {v1 v2 : pv} (hm : mO j = 4) (hd : decode (mB j) pc = .ok (.invokestatic 37, 3)) : J O j n0 Q pc L (v2 :: v1 :: S) n M = (stk S ≤ 8 ∧ mo O 322 [v1, v2] n M (kV O j n0 Q (pc + 3) L S n)) := by
  have e : kR (mR 322) O j n0 Q (pc + 3) L S n = kV O j n0 Q (pc + 3) L S n := kR_V
  rw [← e]; exact J_callS (As := [v1, v2]) ce_3 (by rw [hm]) rfl rfl (by decide +kernel) rfl rfl hd
theorem ce_4 : (11, 34, 2, 63, 342, 1) ∈ calL := by decide +kernel
theorem c_4 {O : pO} {j n0 : Nat} {Q : pQ} {pc : Nat} {L : pL} {S : List pv} {n : Nat} {M : pM} {b : Nat} {v1 v2 : pv} (hm : mO j = 11) (hd : decode (mB j) pc = .ok (.invokespecial 34, 3)) : J O j n0 Q pc L (v2 :: v1 :: vr (b + 1) :: S) n M = (ob n b = 5 ∧ stk S ≤ 8 ∧ n + 0 ≤ n0 + mC j ∧ mo O 63 [vr (b + 1), v1, v2] n M (kV O j n0 Q (pc + 3) L S (n + 0))) := J_callE (As := [v1, v2]) ce_4 (by rw [hm]) rfl rfl rfl rfl (by rw [hm]; decide +kernel) hd
theorem ce_5 : (11, 43, 2, 35, 355, 1) ∈ calL := by decide +kernel
theorem c_5 {O : pO} {j n0 : Nat} {Q : pQ} {pc : Nat} {L : pL} {S : List pv} {n : Nat} {M : pM} {b : Nat} {v1 : pv} (hm : mO j = 11) (hd : decode (mB j) pc = .ok (.invokespecial 43, 3)) : J O j n0 Q pc L (v1 :: vr (b + 1) :: S) n M = (ob n b = 3 ∧ stk S ≤ 8 ∧ n + 3 ≤ n0 + mC j ∧ mo O 35 [vr (b + 1), v1] n M (kV O j n0 Q (pc + 3) L S (n + 3))) := J_callE (As := [v1]) ce_5 (by rw [hm]) rfl rfl rfl rfl (by rw [hm]; decide +kernel) hd
theorem ce_6 : (11, 56, 2, 0, 384, 1) ∈ calL := by decide +kernel
theorem c_6 {O : pO} {j n0 : Nat} {Q : pQ} {pc : Nat} {L : pL} {S : List pv} {n : Nat} {M : pM} {b : Nat} (hm : mO j = 11) (hd : decode (mB j) pc = .ok (.invokespecial 56, 3)) : J O j n0 Q pc L (vr (b + 1) :: S) n M = (ob n b = 0 ∧ stk S ≤ 8 ∧ n + 1 ≤ n0 + mC j ∧ mo O 0 [vr (b + 1)] n M (kV O j n0 Q (pc + 3) L S (n + 1))) := J_callE (As := []) ce_6 (by rw [hm]) rfl rfl rfl rfl (by rw [hm]; decide +kernel) hd
theorem ce_7 : (11, 63, 2, 7, 404, 1) ∈ calL := by decide +kernel
theorem c_7 {O : pO} {j n0 : Nat} {Q : pQ} {pc : Nat} {L : pL} {S : List pv} {n : Nat} {M : pM} {b : Nat} {v1 v2 : pv} (hm : mO j = 11) (hd : decode (mB j) pc = .ok (.invokespecial 63, 3)) : J O j n0 Q pc L (v2 :: v1 :: vr (b + 1) :: S) n M = (ob n b = 1 ∧ stk S ≤ 8 ∧ n + 6 ≤ n0 + mC j ∧ mo O 7 [vr (b + 1), v1, v2] n M (kV O j n0 Q (pc + 3) L S (n + 6))) := J_callE (As := [v1, v2]) ce_7 (by rw [hm]) rfl rfl rfl rfl (by rw [hm]; decide +kernel) hd
theorem ce_8 : (1, 27, 2, 0, 409, 1) ∈ calL := by decide +kernel
theorem c_8 {O : pO} {j n0 : Nat} {Q : pQ} {pc : Nat} {L : pL} {S : List pv} {n : Nat} {M : pM} {b : Nat} (hm : mO j = 1) (hd : decode (mB j) pc = .ok (.invokespecial 27, 3)) : J O j n0 Q pc L (vr (b + 1) :: S) n M = (ob n b = 0 ∧ stk S ≤ 8 ∧ n + 1 ≤ n0 + mC j ∧ mo O 0 [vr (b + 1)] n M (kV O j n0 Q (pc + 3) L S (n + 1))) := J_callE (As := []) ce_8 (by rw [hm]) rfl rfl rfl rfl (by rw [hm]; decide +kernel) hd
theorem ce_9 : (1, 39, 1, 171, 410, 1) ∈ calL := by decide +kernel
theorem c_9 {O : pO} {j n0 : Nat} {Q : pQ} {pc : Nat} {L : pL} {S : List pv} {n : Nat} {M : pM} {v1 v2 : pv} (hm : mO j = 1) (hd : decode (mB j) pc = .ok (.invokestatic 39, 3)) : J O j n0 Q pc L (v2 :: v1 :: S) n M = (stk S ≤ 8 ∧ mo O 171 [v1, v2] n M (kI O j n0 Q (pc + 3) L S n)) := by
  have e : kR (mR 171) O j n0 Q (pc + 3) L S n = kI O j n0 Q (pc + 3) L S n := kR_I (Or.inl rfl)
  rw [← e]; exact J_callS (As := [v1, v2]) ce_9 (by rw [hm]) rfl rfl (by decide +kernel) rfl rfl hd
theorem ce_10 : (11, 72, 2, 29, 474, 1) ∈ calL := by decide +kernel
theorem c_10 {O : pO} {j n0 : Nat} {Q : pQ} {pc : Nat} {L : pL} {S : List pv} {n : Nat} {M : pM} {b : Nat} (hm : mO j = 11) (hd : decode (mB j) pc = .ok (.invokespecial 72, 3)) : J O j n0 Q pc L (vr (b + 1) :: S) n M = (ob n b = 2 ∧ stk S ≤ 8 ∧ n + 4 ≤ n0 + mC j ∧ mo O 29 [vr (b + 1)] n M (kV O j n0 Q (pc + 3) L S (n + 4))) := J_callE (As := []) ce_10 (by rw [hm]) rfl rfl rfl rfl (by rw [hm]; decide +kernel) hd
theorem ce_11 : (11, 79, 2, 113, 509, 1) ∈ calL := by decide +kernel
theorem c_11 {O : pO} {j n0 : Nat} {Q : pQ} {pc : Nat} {L : pL} {S : List pv} {n : Nat} {M : pM} {b : Nat} (hm : mO j = 11) (hd : decode (mB j) pc = .ok (.invokespecial 79, 3)) : J O j n0 Q pc L (vr (b + 1) :: S) n M = (ob n b = 9 ∧ stk S ≤ 8 ∧ n + 7 ≤ n0 + mC j ∧ mo O 113 [vr (b + 1)] n M (kV O j n0 Q (pc + 3) L S (n + 7))) := J_callE (As := []) ce_11 (by rw [hm]) rfl rfl rfl rfl (by rw [hm]; decide +kernel) hd
theorem ce_12 : (11, 86, 2, 98, 556, 1) ∈ calL := by decide +kernel
theorem c_12 {O : pO} {j n0 : Nat} {Q : pQ} {pc : Nat} {L : pL} {S : List pv} {n : Nat} {M : pM} {b : Nat} (hm : mO j = 11) (hd : decode (mB j) pc = .ok (.invokespecial 86, 3)) : J O j n0 Q pc L (vr (b + 1) :: S) n M = (ob n b = 8 ∧ stk S ≤ 8 ∧ n + 4 ≤ n0 + mC j ∧ mo O 98 [vr (b + 1)] n M (kV O j n0 Q (pc + 3) L S (n + 4))) := J_callE (As := []) ce_12 (by rw [hm]) rfl rfl rfl rfl (by rw [hm]; decide +kernel) hd
theorem ce_13 : (11, 93, 2, 78, 587, 1) ∈ calL := by decide +kernel
theorem c_13 {O : pO} {j n0 : Nat} {Q : pQ} {pc : Nat} {L : pL} {S : List pv} {n : Nat} {M : pM} {b : Nat} (hm : mO j = 11) (hd : decode (mB j) pc = .ok (.invokespecial 93, 3)) : J O j n0 Q pc L (vr (b + 1) :: S) n M = (ob n b = 6 ∧ stk S ≤ 8 ∧ n + 1 ≤ n0 + mC j ∧ mo O 78 [vr (b + 1)] n M (kV O j n0 Q (pc + 3) L S (n + 1))) := J_callE (As := []) ce_13 (by rw [hm]) rfl rfl rfl rfl (by rw [hm]; decide +kernel) hd
theorem ce_14 : (11, 100, 2, 121, 597, 1) ∈ calL := by decide +kernel
theorem c_14 {O : pO} {j n0 : Nat} {Q : pQ} {pc : Nat} {L : pL} {S : List pv} {n : Nat} {M : pM} {b : Nat} (hm : mO j = 11) (hd : decode (mB j) pc = .ok (.invokespecial 100, 3)) : J O j n0 Q pc L (vr (b + 1) :: S) n M = (ob n b = 10 ∧ stk S ≤ 8 ∧ n + 5 ≤ n0 + mC j ∧ mo O 121 [vr (b + 1)] n M (kV O j n0 Q (pc + 3) L S (n + 5))) := J_callE (As := []) ce_14 (by rw [hm]) rfl rfl rfl rfl (by rw [hm]; decide +kernel) hd
theorem ce_15 : (13, 13, 0, 129, 675, 0) ∈ calL := by decide +kernel
theorem c_15 {O : pO} {j n0 : Nat} {Q : pQ} {pc : Nat} {L : pL} {S : List pv} {n : Nat} {M : pM} {b : Nat} {v1 v2 v3 v4 v5 : pv} (hm : mO j = 13) (hd : decode (mB j) pc = .ok (.invokevirtual 13, 3)) : J O j n0 Q pc L (v5 :: v4 :: v3 :: v2 :: v1 :: vr (b + 1) :: S) n M = (ob n b = 11 ∧ stk S ≤ 8 ∧ mo O 129 [vr (b + 1), v1, v2, v3, v4, v5] n M (kI O j n0 Q (pc + 3) L S n)) := by
  have e : kR (mR 129) O j n0 Q (pc + 3) L S n = kI O j n0 Q (pc + 3) L S n := kR_I (Or.inl rfl)
  rw [← e]; exact J_callV (As := [v1, v2, v3, v4, v5]) ce_15 (by rw [hm]) rfl rfl (by decide +kernel) rfl rfl hd
theorem ce_16 : (11, 108, 0, 161, 679, 0) ∈ calL := by decide +kernel
theorem c_16 {O : pO} {j n0 : Nat} {Q : pQ} {pc : Nat} {L : pL} {S : List pv} {n : Nat} {M : pM} {b : Nat} {v1 : pv} (hm : mO j = 11) (hd : decode (mB j) pc = .ok (.invokevirtual 108, 3)) : J O j n0 Q pc L (v1 :: vr (b + 1) :: S) n M = (ob n b = 11 ∧ stk S ≤ 8 ∧ mo O 161 [vr (b + 1), v1] n M (kV O j n0 Q (pc + 3) L S n)) := by
  have e : kR (mR 161) O j n0 Q (pc + 3) L S n = kV O j n0 Q (pc + 3) L S n := kR_V
  rw [← e]; exact J_callV (As := [v1]) ce_16 (by rw [hm]) rfl rfl (by decide +kernel) rfl rfl hd
theorem ce_17 : (13, 18, 0, 130, 683, 0) ∈ calL := by decide +kernel
theorem c_17 {O : pO} {j n0 : Nat} {Q : pQ} {pc : Nat} {L : pL} {S : List pv} {n : Nat} {M : pM} {b : Nat} {v1 : pv} (hm : mO j = 13) (hd : decode (mB j) pc = .ok (.invokevirtual 18, 3)) : J O j n0 Q pc L (v1 :: vr (b + 1) :: S) n M = (ob n b = 11 ∧ stk S ≤ 8 ∧ mo O 130 [vr (b + 1), v1] n M (kI O j n0 Q (pc + 3) L S n)) := by
  have e : kR (mR 130) O j n0 Q (pc + 3) L S n = kI O j n0 Q (pc + 3) L S n := kR_I (Or.inl rfl)
  rw [← e]; exact J_callV (As := [v1]) ce_17 (by rw [hm]) rfl rfl (by decide +kernel) rfl rfl hd
theorem ce_18 : (13, 23, 0, 131, 687, 0) ∈ calL := by decide +kernel
theorem c_18 {O : pO} {j n0 : Nat} {Q : pQ} {pc : Nat} {L : pL} {S : List pv} {n : Nat} {M : pM} {b : Nat} (hm : mO j = 13) (hd : decode (mB j) pc = .ok (.invokevirtual 23, 3)) : J O j n0 Q pc L (vr (b + 1) :: S) n M = (ob n b = 11 ∧ stk S ≤ 8 ∧ mo O 131 [vr (b + 1)] n M (kI O j n0 Q (pc + 3) L S n)) := by
  have e : kR (mR 131) O j n0 Q (pc + 3) L S n = kI O j n0 Q (pc + 3) L S n := kR_I (Or.inl rfl)
  rw [← e]; exact J_callV (As := []) ce_18 (by rw [hm]) rfl rfl (by decide +kernel) rfl rfl hd
theorem ce_19 : (11, 112, 0, 64, 691, 1) ∈ calL := by decide +kernel
theorem c_19 {O : pO} {j n0 : Nat} {Q : pQ} {pc : Nat} {L : pL} {S : List pv} {n : Nat} {M : pM} {b : Nat} {v1 v2 : pv} (hm : mO j = 11) (hd : decode (mB j) pc = .ok (.invokevirtual 112, 3)) : J O j n0 Q pc L (v2 :: v1 :: vr (b + 1) :: S) n M = (ob n b = 5 ∧ stk S ≤ 8 ∧ mo O 64 [vr (b + 1), v1, v2] n M (kI O j n0 Q (pc + 3) L S n)) := by
  have e : kR (mR 64) O j n0 Q (pc + 3) L S n = kI O j n0 Q (pc + 3) L S n := kR_I (Or.inr (Or.inl rfl))
  rw [← e]; exact J_callV (As := [v1, v2]) ce_19 (by rw [hm]) rfl rfl (by decide +kernel) rfl rfl hd
theorem ce_20 : (5, 19, 0, 48, 695, 1) ∈ calL := by decide +kernel
theorem c_20 {O : pO} {j n0 : Nat} {Q : pQ} {pc : Nat} {L : pL} {S : List pv} {n : Nat} {M : pM} {b : Nat} (hm : mO j = 5) (hd : decode (mB j) pc = .ok (.invokevirtual 19, 3)) : J O j n0 Q pc L (vr (b + 1) :: S) n M = (ob n b = 4 ∧ stk S ≤ 8 ∧ mo O 48 [vr (b + 1)] n M (kV O j n0 Q (pc + 3) L S n)) := by
  have e : kR (mR 48) O j n0 Q (pc + 3) L S n = kV O j n0 Q (pc + 3) L S n := kR_V
  rw [← e]; exact J_callV (As := []) ce_20 (by rw [hm]) rfl rfl (by decide +kernel) rfl rfl hd
theorem ce_21 : (5, 24, 0, 83, 699, 1) ∈ calL := by decide +kernel
theorem c_21 {O : pO} {j n0 : Nat} {Q : pQ} {pc : Nat} {L : pL} {S : List pv} {n : Nat} {M : pM} {b : Nat} {v1 : pv} (hm : mO j = 5) (hd : decode (mB j) pc = .ok (.invokevirtual 24, 3)) : J O j n0 Q pc L (v1 :: vr (b + 1) :: S) n M = (ob n b = 7 ∧ stk S ≤ 8 ∧ mo O 83 [vr (b + 1), v1] n M (kV O j n0 Q (pc + 3) L S n)) := by
  have e : kR (mR 83) O j n0 Q (pc + 3) L S n = kV O j n0 Q (pc + 3) L S n := kR_V
  rw [← e]; exact J_callV (As := [v1]) ce_21 (by rw [hm]) rfl rfl (by decide +kernel) rfl rfl hd
theorem ce_22 : (7, 15, 1, 299, 703, 0) ∈ calL := by decide +kernel
theorem c_22 {O : pO} {j n0 : Nat} {Q : pQ} {pc : Nat} {L : pL} {S : List pv} {n : Nat} {M : pM} {a b : Int} (hm : mO j = 7) (hd : decode (mB j) pc = .ok (.invokestatic 15, 3)) : J O j n0 Q pc L (vi b :: vi a :: S) n M = (stk S ≤ 8 ∧ J O j n0 Q (pc + 3) L (vi (if b < a then b else a) :: S) n M) := J_min ce_22 (by rw [hm]) rfl (by decide +kernel) hd
theorem ce_23 : (7, 37, 0, 84, 706, 0) ∈ calL := by decide +kernel
theorem c_23 {O : pO} {j n0 : Nat} {Q : pQ} {pc : Nat} {L : pL} {S : List pv} {n : Nat} {M : pM} {b : Nat} (hm : mO j = 7) (hd : decode (mB j) pc = .ok (.invokevirtual 37, 3)) : J O j n0 Q pc L (vr (b + 1) :: S) n M = (ob n b = 7 ∧ stk S ≤ 8 ∧ mo O 84 [vr (b + 1)] n M (kV O j n0 Q (pc + 3) L S n)) := by
  have e : kR (mR 84) O j n0 Q (pc + 3) L S n = kV O j n0 Q (pc + 3) L S n := kR_V
  rw [← e]; exact J_callV (As := []) ce_23 (by rw [hm]) rfl rfl (by decide +kernel) rfl rfl hd
theorem ce_24 : (7, 46, 0, 85, 710, 0) ∈ calL := by decide +kernel
theorem c_24 {O : pO} {j n0 : Nat} {Q : pQ} {pc : Nat} {L : pL} {S : List pv} {n : Nat} {M : pM} {b : Nat} {v1 v2 : pv} (hm : mO j = 7) (hd : decode (mB j) pc = .ok (.invokevirtual 46, 3)) : J O j n0 Q pc L (v2 :: v1 :: vr (b + 1) :: S) n M = (ob n b = 7 ∧ stk S ≤ 8 ∧ mo O 85 [vr (b + 1), v1, v2] n M (kI O j n0 Q (pc + 3) L S n)) := by
  have e : kR (mR 85) O j n0 Q (pc + 3) L S n = kI O j n0 Q (pc + 3) L S n := kR_I (Or.inl rfl)
  rw [← e]; exact J_callV (As := [v1, v2]) ce_24 (by rw [hm]) rfl rfl (by decide +kernel) rfl rfl hd
theorem ce_25 : (7, 53, 0, 87, 714, 0) ∈ calL := by decide +kernel
theorem c_25 {O : pO} {j n0 : Nat} {Q : pQ} {pc : Nat} {L : pL} {S : List pv} {n : Nat} {M : pM} {b : Nat} (hm : mO j = 7) (hd : decode (mB j) pc = .ok (.invokevirtual 53, 3)) : J O j n0 Q pc L (vr (b + 1) :: S) n M = (ob n b = 7 ∧ stk S ≤ 8 ∧ mo O 87 [vr (b + 1)] n M (kI O j n0 Q (pc + 3) L S n)) := by
  have e : kR (mR 87) O j n0 Q (pc + 3) L S n = kI O j n0 Q (pc + 3) L S n := kR_I (Or.inl rfl)
  rw [← e]; exact J_callV (As := []) ce_25 (by rw [hm]) rfl rfl (by decide +kernel) rfl rfl hd
theorem ce_26 : (7, 70, 0, 300, 719, 0) ∈ calL := by decide +kernel
theorem ce_27 : (14, 335, 0, 304, 723, 0) ∈ calL := by decide +kernel
theorem ce_28 : (7, 72, 0, 301, 729, 0) ∈ calL := by decide +kernel
theorem ce_29 : (14, 492, 0, 305, 733, 0) ∈ calL := by decide +kernel
theorem ce_30 : (14, 495, 1, 308, 737, 0) ∈ calL := by decide +kernel
theorem c_30 {O : pO} {j n0 : Nat} {Q : pQ} {pc : Nat} {L : pL} {S : List pv} {n : Nat} {M : pM} {v1 v2 : pv} (hm : mO j = 14) (hd : decode (mB j) pc = .ok (.invokestatic 495, 3)) : J O j n0 Q pc L (v2 :: v1 :: S) n M = (stk S ≤ 8 ∧ mo O 308 [v1, v2] n M (kI O j n0 Q (pc + 3) L S n)) := by
  have e : kR (mR 308) O j n0 Q (pc + 3) L S n = kI O j n0 Q (pc + 3) L S n := kR_I (Or.inr (Or.inr rfl))
  rw [← e]; exact J_callS (As := [v1, v2]) ce_30 (by rw [hm]) rfl rfl (by decide +kernel) rfl rfl hd
theorem ce_31 : (15, 9, 1, 306, 740, 0) ∈ calL := by decide +kernel
theorem c_31 {O : pO} {j n0 : Nat} {Q : pQ} {pc : Nat} {L : pL} {S : List pv} {n : Nat} {M : pM} {v1 v2 : pv} (hm : mO j = 15) (hd : decode (mB j) pc = .ok (.invokestatic 9, 3)) : J O j n0 Q pc L (v2 :: v1 :: S) n M = (stk S ≤ 8 ∧ mo O 306 [v1, v2] n M (kV O j n0 Q (pc + 3) L S n)) := by
  have e : kR (mR 306) O j n0 Q (pc + 3) L S n = kV O j n0 Q (pc + 3) L S n := kR_V
  rw [← e]; exact J_callS (As := [v1, v2]) ce_31 (by rw [hm]) rfl rfl (by decide +kernel) rfl rfl hd
theorem ce_32 : (14, 1059, 1, 323, 745, 0) ∈ calL := by decide +kernel
theorem c_32 {O : pO} {j n0 : Nat} {Q : pQ} {pc : Nat} {L : pL} {S : List pv} {n : Nat} {M : pM} {v1 v2 v3 : pv} (hm : mO j = 14) (hd : decode (mB j) pc = .ok (.invokestatic 1059, 3)) : J O j n0 Q pc L (v3 :: v2 :: v1 :: S) n M = (stk S ≤ 8 ∧ mo O 323 [v1, v2, v3] n M (kI O j n0 Q (pc + 3) L S n)) := by
  have e : kR (mR 323) O j n0 Q (pc + 3) L S n = kI O j n0 Q (pc + 3) L S n := kR_I (Or.inl rfl)
  rw [← e]; exact J_callS (As := [v1, v2, v3]) ce_32 (by rw [hm]) rfl rfl (by decide +kernel) rfl rfl hd
theorem ce_33 : (14, 498, 1, 318, 748, 0) ∈ calL := by decide +kernel
theorem c_33 {O : pO} {j n0 : Nat} {Q : pQ} {pc : Nat} {L : pL} {S : List pv} {n : Nat} {M : pM} {v1 v2 : pv} (hm : mO j = 14) (hd : decode (mB j) pc = .ok (.invokestatic 498, 3)) : J O j n0 Q pc L (v2 :: v1 :: S) n M = (stk S ≤ 8 ∧ mo O 318 [v1, v2] n M (kI O j n0 Q (pc + 3) L S n)) := by
  have e : kR (mR 318) O j n0 Q (pc + 3) L S n = kI O j n0 Q (pc + 3) L S n := kR_I (Or.inr (Or.inr rfl))
  rw [← e]; exact J_callS (As := [v1, v2]) ce_33 (by rw [hm]) rfl rfl (by decide +kernel) rfl rfl hd
theorem ce_34 : (16, 67, 1, 319, 751, 0) ∈ calL := by decide +kernel
theorem c_34 {O : pO} {j n0 : Nat} {Q : pQ} {pc : Nat} {L : pL} {S : List pv} {n : Nat} {M : pM} {v1 v2 : pv} (hm : mO j = 16) (hd : decode (mB j) pc = .ok (.invokestatic 67, 3)) : J O j n0 Q pc L (v2 :: v1 :: S) n M = (stk S ≤ 8 ∧ mo O 319 [v1, v2] n M (kV O j n0 Q (pc + 3) L S n)) := by
  have e : kR (mR 319) O j n0 Q (pc + 3) L S n = kV O j n0 Q (pc + 3) L S n := kR_V
  rw [← e]; exact J_callS (As := [v1, v2]) ce_34 (by rw [hm]) rfl rfl (by decide +kernel) rfl rfl hd
theorem ce_35 : (16, 48, 1, 313, 754, 0) ∈ calL := by decide +kernel
theorem c_35 {O : pO} {j n0 : Nat} {Q : pQ} {pc : Nat} {L : pL} {S : List pv} {n : Nat} {M : pM} {v1 : pv} (hm : mO j = 16) (hd : decode (mB j) pc = .ok (.invokestatic 48, 3)) : J O j n0 Q pc L (v1 :: S) n M = (stk S ≤ 8 ∧ mo O 313 [v1] n M (kI O j n0 Q (pc + 3) L S n)) := by
  have e : kR (mR 313) O j n0 Q (pc + 3) L S n = kI O j n0 Q (pc + 3) L S n := kR_I (Or.inl rfl)
  rw [← e]; exact J_callS (As := [v1]) ce_35 (by rw [hm]) rfl rfl (by decide +kernel) rfl rfl hd
theorem ce_36 : (16, 414, 1, 306, 757, 0) ∈ calL := by decide +kernel
theorem c_36 {O : pO} {j n0 : Nat} {Q : pQ} {pc : Nat} {L : pL} {S : List pv} {n : Nat} {M : pM} {v1 v2 : pv} (hm : mO j = 16) (hd : decode (mB j) pc = .ok (.invokestatic 414, 3)) : J O j n0 Q pc L (v2 :: v1 :: S) n M = (stk S ≤ 8 ∧ mo O 306 [v1, v2] n M (kV O j n0 Q (pc + 3) L S n)) := by
  have e : kR (mR 306) O j n0 Q (pc + 3) L S n = kV O j n0 Q (pc + 3) L S n := kR_V
  rw [← e]; exact J_callS (As := [v1, v2]) ce_36 (by rw [hm]) rfl rfl (by decide +kernel) rfl rfl hd
theorem ce_37 : (16, 71, 1, 312, 758, 0) ∈ calL := by decide +kernel
theorem c_37 {O : pO} {j n0 : Nat} {Q : pQ} {pc : Nat} {L : pL} {S : List pv} {n : Nat} {M : pM} {v1 v2 : pv} (hm : mO j = 16) (hd : decode (mB j) pc = .ok (.invokestatic 71, 3)) : J O j n0 Q pc L (v2 :: v1 :: S) n M = (stk S ≤ 8 ∧ mo O 312 [v1, v2] n M (kI O j n0 Q (pc + 3) L S n)) := by
  have e : kR (mR 312) O j n0 Q (pc + 3) L S n = kI O j n0 Q (pc + 3) L S n := kR_I (Or.inr (Or.inr rfl))
  rw [← e]; exact J_callS (As := [v1, v2]) ce_37 (by rw [hm]) rfl rfl (by decide +kernel) rfl rfl hd
theorem ce_38 : (7, 57, 0, 86, 767, 0) ∈ calL := by decide +kernel
theorem c_38 {O : pO} {j n0 : Nat} {Q : pQ} {pc : Nat} {L : pL} {S : List pv} {n : Nat} {M : pM} {b : Nat} (hm : mO j = 7) (hd : decode (mB j) pc = .ok (.invokevirtual 57, 3)) : J O j n0 Q pc L (vr (b + 1) :: S) n M = (ob n b = 7 ∧ stk S ≤ 8 ∧ mo O 86 [vr (b + 1)] n M (kI O j n0 Q (pc + 3) L S n)) := by
  have e : kR (mR 86) O j n0 Q (pc + 3) L S n = kI O j n0 Q (pc + 3) L S n := kR_I (Or.inl rfl)
  rw [← e]; exact J_callV (As := []) ce_38 (by rw [hm]) rfl rfl (by decide +kernel) rfl rfl hd
theorem ce_39 : (7, 62, 0, 302, 772, 0) ∈ calL := by decide +kernel
theorem ce_40 : (14, 633, 0, 303, 776, 0) ∈ calL := by decide +kernel
theorem ce_41 : (14, 505, 0, 300, 780, 0) ∈ calL := by decide +kernel
theorem ce_42 : (14, 637, 1, 310, 781, 0) ∈ calL := by decide +kernel
theorem c_42 {O : pO} {j n0 : Nat} {Q : pQ} {pc : Nat} {L : pL} {S : List pv} {n : Nat} {M : pM} {v1 v2 v3 v4 : pv} (hm : mO j = 14) (hd : decode (mB j) pc = .ok (.invokestatic 637, 3)) : J O j n0 Q pc L (v4 :: v3 :: v2 :: v1 :: S) n M = (stk S ≤ 8 ∧ mo O 310 [v1, v2, v3, v4] n M (kI O j n0 Q (pc + 3) L S n)) := by
  have e : kR (mR 310) O j n0 Q (pc + 3) L S n = kI O j n0 Q (pc + 3) L S n := kR_I (Or.inl rfl)
  rw [← e]; exact J_callS (As := [v1, v2, v3, v4]) ce_42 (by rw [hm]) rfl rfl (by decide +kernel) rfl rfl hd
theorem ce_43 : (15, 88, 1, 309, 784, 0) ∈ calL := by decide +kernel
theorem c_43 {O : pO} {j n0 : Nat} {Q : pQ} {pc : Nat} {L : pL} {S : List pv} {n : Nat} {M : pM} {v1 : pv} (hm : mO j = 15) (hd : decode (mB j) pc = .ok (.invokestatic 88, 3)) : J O j n0 Q pc L (v1 :: S) n M = (stk S ≤ 8 ∧ mo O 309 [v1] n M (kI O j n0 Q (pc + 3) L S n)) := by
  have e : kR (mR 309) O j n0 Q (pc + 3) L S n = kI O j n0 Q (pc + 3) L S n := kR_I (Or.inr (Or.inl rfl))
  rw [← e]; exact J_callS (As := [v1]) ce_43 (by rw [hm]) rfl rfl (by decide +kernel) rfl rfl hd
theorem ce_44 : (15, 92, 1, 298, 787, 0) ∈ calL := by decide +kernel
theorem c_44 {O : pO} {j n0 : Nat} {Q : pQ} {pc : Nat} {L : pL} {S : List pv} {n : Nat} {M : pM} {a b : Int} (hm : mO j = 15) (hd : decode (mB j) pc = .ok (.invokestatic 92, 3)) : J O j n0 Q pc L (vi b :: vi a :: S) n M = (stk S ≤ 8 ∧ J O j n0 Q (pc + 3) L (vi (if a < b then b else a) :: S) n M) := J_max ce_44 (by rw [hm]) rfl (by decide +kernel) hd
theorem ce_45 : (15, 38, 1, 299, 790, 0) ∈ calL := by decide +kernel
theorem c_45 {O : pO} {j n0 : Nat} {Q : pQ} {pc : Nat} {L : pL} {S : List pv} {n : Nat} {M : pM} {a b : Int} (hm : mO j = 15) (hd : decode (mB j) pc = .ok (.invokestatic 38, 3)) : J O j n0 Q pc L (vi b :: vi a :: S) n M = (stk S ≤ 8 ∧ J O j n0 Q (pc + 3) L (vi (if b < a then b else a) :: S) n M) := J_min ce_45 (by rw [hm]) rfl (by decide +kernel) hd
theorem ce_46 : (15, 95, 1, 311, 791, 0) ∈ calL := by decide +kernel
theorem c_46 {O : pO} {j n0 : Nat} {Q : pQ} {pc : Nat} {L : pL} {S : List pv} {n : Nat} {M : pM} {v1 v2 v3 v4 : pv} (hm : mO j = 15) (hd : decode (mB j) pc = .ok (.invokestatic 95, 3)) : J O j n0 Q pc L (v4 :: v3 :: v2 :: v1 :: S) n M = (stk S ≤ 8 ∧ mo O 311 [v1, v2, v3, v4] n M (kI O j n0 Q (pc + 3) L S n)) := by
  have e : kR (mR 311) O j n0 Q (pc + 3) L S n = kI O j n0 Q (pc + 3) L S n := kR_I (Or.inl rfl)
  rw [← e]; exact J_callS (As := [v1, v2, v3, v4]) ce_46 (by rw [hm]) rfl rfl (by decide +kernel) rfl rfl hd
theorem ce_47 : (14, 640, 1, 314, 794, 0) ∈ calL := by decide +kernel
theorem c_47 {O : pO} {j n0 : Nat} {Q : pQ} {pc : Nat} {L : pL} {S : List pv} {n : Nat} {M : pM} {v1 v2 v3 v4 : pv} (hm : mO j = 14) (hd : decode (mB j) pc = .ok (.invokestatic 640, 3)) : J O j n0 Q pc L (v4 :: v3 :: v2 :: v1 :: S) n M = (stk S ≤ 8 ∧ mo O 314 [v1, v2, v3, v4] n M (kI O j n0 Q (pc + 3) L S n)) := by
  have e : kR (mR 314) O j n0 Q (pc + 3) L S n = kI O j n0 Q (pc + 3) L S n := kR_I (Or.inl rfl)
  rw [← e]; exact J_callS (As := [v1, v2, v3, v4]) ce_47 (by rw [hm]) rfl rfl (by decide +kernel) rfl rfl hd
theorem ce_48 : (16, 224, 1, 298, 797, 0) ∈ calL := by decide +kernel
theorem c_48 {O : pO} {j n0 : Nat} {Q : pQ} {pc : Nat} {L : pL} {S : List pv} {n : Nat} {M : pM} {a b : Int} (hm : mO j = 16) (hd : decode (mB j) pc = .ok (.invokestatic 224, 3)) : J O j n0 Q pc L (vi b :: vi a :: S) n M = (stk S ≤ 8 ∧ J O j n0 Q (pc + 3) L (vi (if a < b then b else a) :: S) n M) := J_max ce_48 (by rw [hm]) rfl (by decide +kernel) hd
theorem ce_49 : (16, 183, 1, 299, 798, 0) ∈ calL := by decide +kernel
theorem c_49 {O : pO} {j n0 : Nat} {Q : pQ} {pc : Nat} {L : pL} {S : List pv} {n : Nat} {M : pM} {a b : Int} (hm : mO j = 16) (hd : decode (mB j) pc = .ok (.invokestatic 183, 3)) : J O j n0 Q pc L (vi b :: vi a :: S) n M = (stk S ≤ 8 ∧ J O j n0 Q (pc + 3) L (vi (if b < a then b else a) :: S) n M) := J_min ce_49 (by rw [hm]) rfl (by decide +kernel) hd
theorem ce_50 : (16, 228, 1, 315, 800, 0) ∈ calL := by decide +kernel
theorem c_50 {O : pO} {j n0 : Nat} {Q : pQ} {pc : Nat} {L : pL} {S : List pv} {n : Nat} {M : pM} {v1 v2 v3 v4 : pv} (hm : mO j = 16) (hd : decode (mB j) pc = .ok (.invokestatic 228, 3)) : J O j n0 Q pc L (v4 :: v3 :: v2 :: v1 :: S) n M = (stk S ≤ 8 ∧ mo O 315 [v1, v2, v3, v4] n M (kI O j n0 Q (pc + 3) L S n)) := by
  have e : kR (mR 315) O j n0 Q (pc + 3) L S n = kI O j n0 Q (pc + 3) L S n := kR_I (Or.inl rfl)
  rw [← e]; exact J_callS (As := [v1, v2, v3, v4]) ce_50 (by rw [hm]) rfl rfl (by decide +kernel) rfl rfl hd
theorem ce_51 : (16, 96, 1, 320, 803, 0) ∈ calL := by decide +kernel
theorem c_51 {O : pO} {j n0 : Nat} {Q : pQ} {pc : Nat} {L : pL} {S : List pv} {n : Nat} {M : pM} {v1 v2 v3 : pv} (hm : mO j = 16) (hd : decode (mB j) pc = .ok (.invokestatic 96, 3)) : J O j n0 Q pc L (v3 :: v2 :: v1 :: S) n M = (stk S ≤ 8 ∧ mo O 320 [v1, v2, v3] n M (kV O j n0 Q (pc + 3) L S n)) := by
  have e : kR (mR 320) O j n0 Q (pc + 3) L S n = kV O j n0 Q (pc + 3) L S n := kR_V
  rw [← e]; exact J_callS (As := [v1, v2, v3]) ce_51 (by rw [hm]) rfl rfl (by decide +kernel) rfl rfl hd
theorem ce_52 : (16, 241, 1, 307, 806, 0) ∈ calL := by decide +kernel
theorem c_52 {O : pO} {j n0 : Nat} {Q : pQ} {pc : Nat} {L : pL} {S : List pv} {n : Nat} {M : pM} {v1 v2 v3 : pv} (hm : mO j = 16) (hd : decode (mB j) pc = .ok (.invokestatic 241, 3)) : J O j n0 Q pc L (v3 :: v2 :: v1 :: S) n M = (stk S ≤ 8 ∧ mo O 307 [v1, v2, v3] n M (kV O j n0 Q (pc + 3) L S n)) := by
  have e : kR (mR 307) O j n0 Q (pc + 3) L S n = kV O j n0 Q (pc + 3) L S n := kR_V
  rw [← e]; exact J_callS (As := [v1, v2, v3]) ce_52 (by rw [hm]) rfl rfl (by decide +kernel) rfl rfl hd
theorem ce_53 : (14, 1062, 1, 324, 809, 0) ∈ calL := by decide +kernel
theorem c_53 {O : pO} {j n0 : Nat} {Q : pQ} {pc : Nat} {L : pL} {S : List pv} {n : Nat} {M : pM} {v1 v2 v3 v4 : pv} (hm : mO j = 14) (hd : decode (mB j) pc = .ok (.invokestatic 1062, 3)) : J O j n0 Q pc L (v4 :: v3 :: v2 :: v1 :: S) n M = (stk S ≤ 8 ∧ mo O 324 [v1, v2, v3, v4] n M (kI O j n0 Q (pc + 3) L S n)) := by
  have e : kR (mR 324) O j n0 Q (pc + 3) L S n = kI O j n0 Q (pc + 3) L S n := kR_I (Or.inl rfl)
  rw [← e]; exact J_callS (As := [v1, v2, v3, v4]) ce_53 (by rw [hm]) rfl rfl (by decide +kernel) rfl rfl hd
theorem ce_54 : (16, 244, 1, 316, 812, 0) ∈ calL := by decide +kernel
theorem c_54 {O : pO} {j n0 : Nat} {Q : pQ} {pc : Nat} {L : pL} {S : List pv} {n : Nat} {M : pM} {v1 v2 v3 v4 : pv} (hm : mO j = 16) (hd : decode (mB j) pc = .ok (.invokestatic 244, 3)) : J O j n0 Q pc L (v4 :: v3 :: v2 :: v1 :: S) n M = (stk S ≤ 8 ∧ mo O 316 [v1, v2, v3, v4] n M (kI O j n0 Q (pc + 3) L S n)) := by
  have e : kR (mR 316) O j n0 Q (pc + 3) L S n = kI O j n0 Q (pc + 3) L S n := kR_I (Or.inl rfl)
  rw [← e]; exact J_callS (As := [v1, v2, v3, v4]) ce_54 (by rw [hm]) rfl rfl (by decide +kernel) rfl rfl hd
theorem ce_55 : (16, 232, 1, 317, 815, 0) ∈ calL := by decide +kernel
theorem c_55 {O : pO} {j n0 : Nat} {Q : pQ} {pc : Nat} {L : pL} {S : List pv} {n : Nat} {M : pM} {v1 v2 v3 v4 : pv} (hm : mO j = 16) (hd : decode (mB j) pc = .ok (.invokestatic 232, 3)) : J O j n0 Q pc L (v4 :: v3 :: v2 :: v1 :: S) n M = (stk S ≤ 8 ∧ mo O 317 [v1, v2, v3, v4] n M (kI O j n0 Q (pc + 3) L S n)) := by
  have e : kR (mR 317) O j n0 Q (pc + 3) L S n = kI O j n0 Q (pc + 3) L S n := kR_I (Or.inl rfl)
  rw [← e]; exact J_callS (As := [v1, v2, v3, v4]) ce_55 (by rw [hm]) rfl rfl (by decide +kernel) rfl rfl hd
theorem ce_56 : (16, 164, 1, 292, 818, 0) ∈ calL := by decide +kernel
theorem c_56 {O : pO} {j n0 : Nat} {Q : pQ} {pc : Nat} {L : pL} {S : List pv} {n : Nat} {M : pM} {v1 : pv} (hm : mO j = 16) (hd : decode (mB j) pc = .ok (.invokestatic 164, 3)) : J O j n0 Q pc L (v1 :: S) n M = (stk S ≤ 8 ∧ mo O 292 [v1] n M (kI O j n0 Q (pc + 3) L S n)) := by
  have e : kR (mR 292) O j n0 Q (pc + 3) L S n = kI O j n0 Q (pc + 3) L S n := kR_I (Or.inr (Or.inl rfl))
  rw [← e]; exact J_callS (As := [v1]) ce_56 (by rw [hm]) rfl rfl (by decide +kernel) rfl rfl hd
theorem ce_57 : (16, 157, 1, 293, 821, 0) ∈ calL := by decide +kernel
theorem c_57 {O : pO} {j n0 : Nat} {Q : pQ} {pc : Nat} {L : pL} {S : List pv} {n : Nat} {M : pM} {v1 : pv} (hm : mO j = 16) (hd : decode (mB j) pc = .ok (.invokestatic 157, 3)) : J O j n0 Q pc L (v1 :: S) n M = (stk S ≤ 8 ∧ mo O 293 [v1] n M (kI O j n0 Q (pc + 3) L S n)) := by
  have e : kR (mR 293) O j n0 Q (pc + 3) L S n = kI O j n0 Q (pc + 3) L S n := kR_I (Or.inr (Or.inr rfl))
  rw [← e]; exact J_callS (As := [v1]) ce_57 (by rw [hm]) rfl rfl (by decide +kernel) rfl rfl hd
theorem ce_58 : (16, 161, 1, 294, 825, 0) ∈ calL := by decide +kernel
theorem c_58 {O : pO} {j n0 : Nat} {Q : pQ} {pc : Nat} {L : pL} {S : List pv} {n : Nat} {M : pM} {v1 : pv} (hm : mO j = 16) (hd : decode (mB j) pc = .ok (.invokestatic 161, 3)) : J O j n0 Q pc L (v1 :: S) n M = (stk S ≤ 8 ∧ mo O 294 [v1] n M (kI O j n0 Q (pc + 3) L S n)) := by
  have e : kR (mR 294) O j n0 Q (pc + 3) L S n = kI O j n0 Q (pc + 3) L S n := kR_I (Or.inr (Or.inr rfl))
  rw [← e]; exact J_callS (As := [v1]) ce_58 (by rw [hm]) rfl rfl (by decide +kernel) rfl rfl hd
theorem ce_59 : (5, 37, 0, 65, 829, 0) ∈ calL := by decide +kernel
theorem c_59 {O : pO} {j n0 : Nat} {Q : pQ} {pc : Nat} {L : pL} {S : List pv} {n : Nat} {M : pM} {b : Nat} (hm : mO j = 5) (hd : decode (mB j) pc = .ok (.invokevirtual 37, 3)) : J O j n0 Q pc L (vr (b + 1) :: S) n M = (ob n b = 5 ∧ stk S ≤ 8 ∧ mo O 65 [vr (b + 1)] n M (kI O j n0 Q (pc + 3) L S n)) := by
  have e : kR (mR 65) O j n0 Q (pc + 3) L S n = kI O j n0 Q (pc + 3) L S n := kR_I (Or.inr (Or.inl rfl))
  rw [← e]; exact J_callV (As := []) ce_59 (by rw [hm]) rfl rfl (by decide +kernel) rfl rfl hd
theorem ce_60 : (5, 73, 0, 84, 833, 1) ∈ calL := by decide +kernel
theorem c_60 {O : pO} {j n0 : Nat} {Q : pQ} {pc : Nat} {L : pL} {S : List pv} {n : Nat} {M : pM} {b : Nat} (hm : mO j = 5) (hd : decode (mB j) pc = .ok (.invokevirtual 73, 3)) : J O j n0 Q pc L (vr (b + 1) :: S) n M = (ob n b = 7 ∧ stk S ≤ 8 ∧ mo O 84 [vr (b + 1)] n M (kV O j n0 Q (pc + 3) L S n)) := by
  have e : kR (mR 84) O j n0 Q (pc + 3) L S n = kV O j n0 Q (pc + 3) L S n := kR_V
  rw [← e]; exact J_callV (As := []) ce_60 (by rw [hm]) rfl rfl (by decide +kernel) rfl rfl hd
theorem ce_61 : (5, 76, 0, 95, 834, 1) ∈ calL := by decide +kernel
theorem c_61 {O : pO} {j n0 : Nat} {Q : pQ} {pc : Nat} {L : pL} {S : List pv} {n : Nat} {M : pM} {b : Nat} {v1 v2 : pv} (hm : mO j = 5) (hd : decode (mB j) pc = .ok (.invokevirtual 76, 3)) : J O j n0 Q pc L (v2 :: v1 :: vr (b + 1) :: S) n M = (ob n b = 7 ∧ stk S ≤ 8 ∧ mo O 95 [vr (b + 1), v1, v2] n M (kI O j n0 Q (pc + 3) L S n)) := by
  have e : kR (mR 95) O j n0 Q (pc + 3) L S n = kI O j n0 Q (pc + 3) L S n := kR_I (Or.inl rfl)
  rw [← e]; exact J_callV (As := [v1, v2]) ce_61 (by rw [hm]) rfl rfl (by decide +kernel) rfl rfl hd
theorem ce_62 : (7, 85, 0, 96, 838, 0) ∈ calL := by decide +kernel
theorem c_62 {O : pO} {j n0 : Nat} {Q : pQ} {pc : Nat} {L : pL} {S : List pv} {n : Nat} {M : pM} {b : Nat} {v1 : pv} (hm : mO j = 7) (hd : decode (mB j) pc = .ok (.invokevirtual 85, 3)) : J O j n0 Q pc L (v1 :: vr (b + 1) :: S) n M = (ob n b = 7 ∧ stk S ≤ 8 ∧ mo O 96 [vr (b + 1), v1] n M (kI O j n0 Q (pc + 3) L S n)) := by
  have e : kR (mR 96) O j n0 Q (pc + 3) L S n = kI O j n0 Q (pc + 3) L S n := kR_I (Or.inr (Or.inl rfl))
  rw [← e]; exact J_callV (As := [v1]) ce_62 (by rw [hm]) rfl rfl (by decide +kernel) rfl rfl hd
theorem ce_63 : (5, 83, 0, 97, 842, 1) ∈ calL := by decide +kernel
theorem c_63 {O : pO} {j n0 : Nat} {Q : pQ} {pc : Nat} {L : pL} {S : List pv} {n : Nat} {M : pM} {b : Nat} {v1 : pv} (hm : mO j = 5) (hd : decode (mB j) pc = .ok (.invokevirtual 83, 3)) : J O j n0 Q pc L (v1 :: vr (b + 1) :: S) n M = (ob n b = 7 ∧ stk S ≤ 8 ∧ mo O 97 [vr (b + 1), v1] n M (kI O j n0 Q (pc + 3) L S n)) := by
  have e : kR (mR 97) O j n0 Q (pc + 3) L S n = kI O j n0 Q (pc + 3) L S n := kR_I (Or.inr (Or.inl rfl))
  rw [← e]; exact J_callV (As := [v1]) ce_63 (by rw [hm]) rfl rfl (by decide +kernel) rfl rfl hd
theorem ce_64 : (5, 62, 0, 96, 846, 1) ∈ calL := by decide +kernel
theorem c_64 {O : pO} {j n0 : Nat} {Q : pQ} {pc : Nat} {L : pL} {S : List pv} {n : Nat} {M : pM} {b : Nat} {v1 : pv} (hm : mO j = 5) (hd : decode (mB j) pc = .ok (.invokevirtual 62, 3)) : J O j n0 Q pc L (v1 :: vr (b + 1) :: S) n M = (ob n b = 7 ∧ stk S ≤ 8 ∧ mo O 96 [vr (b + 1), v1] n M (kI O j n0 Q (pc + 3) L S n)) := by
  have e : kR (mR 96) O j n0 Q (pc + 3) L S n = kI O j n0 Q (pc + 3) L S n := kR_I (Or.inr (Or.inl rfl))
  rw [← e]; exact J_callV (As := [v1]) ce_64 (by rw [hm]) rfl rfl (by decide +kernel) rfl rfl hd
theorem ce_65 : (5, 86, 0, 89, 847, 1) ∈ calL := by decide +kernel
theorem c_65 {O : pO} {j n0 : Nat} {Q : pQ} {pc : Nat} {L : pL} {S : List pv} {n : Nat} {M : pM} {b : Nat} (hm : mO j = 5) (hd : decode (mB j) pc = .ok (.invokevirtual 86, 3)) : J O j n0 Q pc L (vr (b + 1) :: S) n M = (ob n b = 7 ∧ stk S ≤ 8 ∧ mo O 89 [vr (b + 1)] n M (kI O j n0 Q (pc + 3) L S n)) := by
  have e : kR (mR 89) O j n0 Q (pc + 3) L S n = kI O j n0 Q (pc + 3) L S n := kR_I (Or.inl rfl)
  rw [← e]; exact J_callV (As := []) ce_65 (by rw [hm]) rfl rfl (by decide +kernel) rfl rfl hd
theorem ce_66 : (5, 90, 0, 90, 851, 1) ∈ calL := by decide +kernel
theorem c_66 {O : pO} {j n0 : Nat} {Q : pQ} {pc : Nat} {L : pL} {S : List pv} {n : Nat} {M : pM} {b : Nat} {v1 : pv} (hm : mO j = 5) (hd : decode (mB j) pc = .ok (.invokevirtual 90, 3)) : J O j n0 Q pc L (v1 :: vr (b + 1) :: S) n M = (ob n b = 7 ∧ stk S ≤ 8 ∧ mo O 90 [vr (b + 1), v1] n M (kI O j n0 Q (pc + 3) L S n)) := by
  have e : kR (mR 90) O j n0 Q (pc + 3) L S n = kI O j n0 Q (pc + 3) L S n := kR_I (Or.inl rfl)
  rw [← e]; exact J_callV (As := [v1]) ce_66 (by rw [hm]) rfl rfl (by decide +kernel) rfl rfl hd
theorem ce_67 : (7, 78, 0, 89, 855, 0) ∈ calL := by decide +kernel
theorem c_67 {O : pO} {j n0 : Nat} {Q : pQ} {pc : Nat} {L : pL} {S : List pv} {n : Nat} {M : pM} {b : Nat} (hm : mO j = 7) (hd : decode (mB j) pc = .ok (.invokevirtual 78, 3)) : J O j n0 Q pc L (vr (b + 1) :: S) n M = (ob n b = 7 ∧ stk S ≤ 8 ∧ mo O 89 [vr (b + 1)] n M (kI O j n0 Q (pc + 3) L S n)) := by
  have e : kR (mR 89) O j n0 Q (pc + 3) L S n = kI O j n0 Q (pc + 3) L S n := kR_I (Or.inl rfl)
  rw [← e]; exact J_callV (As := []) ce_67 (by rw [hm]) rfl rfl (by decide +kernel) rfl rfl hd
theorem ce_68 : (5, 41, 0, 66, 856, 0) ∈ calL := by decide +kernel
theorem c_68 {O : pO} {j n0 : Nat} {Q : pQ} {pc : Nat} {L : pL} {S : List pv} {n : Nat} {M : pM} {b : Nat} (hm : mO j = 5) (hd : decode (mB j) pc = .ok (.invokevirtual 41, 3)) : J O j n0 Q pc L (vr (b + 1) :: S) n M = (ob n b = 5 ∧ stk S ≤ 8 ∧ mo O 66 [vr (b + 1)] n M (kI O j n0 Q (pc + 3) L S n)) := by
  have e : kR (mR 66) O j n0 Q (pc + 3) L S n = kI O j n0 Q (pc + 3) L S n := kR_I (Or.inr (Or.inl rfl))
  rw [← e]; exact J_callV (As := []) ce_68 (by rw [hm]) rfl rfl (by decide +kernel) rfl rfl hd
theorem ce_69 : (5, 44, 0, 68, 860, 0) ∈ calL := by decide +kernel
theorem c_69 {O : pO} {j n0 : Nat} {Q : pQ} {pc : Nat} {L : pL} {S : List pv} {n : Nat} {M : pM} {b : Nat} (hm : mO j = 5) (hd : decode (mB j) pc = .ok (.invokevirtual 44, 3)) : J O j n0 Q pc L (vr (b + 1) :: S) n M = (ob n b = 5 ∧ stk S ≤ 8 ∧ mo O 68 [vr (b + 1)] n M (kI O j n0 Q (pc + 3) L S n)) := by
  have e : kR (mR 68) O j n0 Q (pc + 3) L S n = kI O j n0 Q (pc + 3) L S n := kR_I (Or.inr (Or.inl rfl))
  rw [← e]; exact J_callV (As := []) ce_69 (by rw [hm]) rfl rfl (by decide +kernel) rfl rfl hd
theorem ce_70 : (5, 107, 0, 67, 864, 0) ∈ calL := by decide +kernel
theorem c_70 {O : pO} {j n0 : Nat} {Q : pQ} {pc : Nat} {L : pL} {S : List pv} {n : Nat} {M : pM} {b : Nat} {v1 : pv} (hm : mO j = 5) (hd : decode (mB j) pc = .ok (.invokevirtual 107, 3)) : J O j n0 Q pc L (v1 :: vr (b + 1) :: S) n M = (ob n b = 5 ∧ stk S ≤ 8 ∧ mo O 67 [vr (b + 1), v1] n M (kI O j n0 Q (pc + 3) L S n)) := by
  have e : kR (mR 67) O j n0 Q (pc + 3) L S n = kI O j n0 Q (pc + 3) L S n := kR_I (Or.inl rfl)
  rw [← e]; exact J_callV (As := [v1]) ce_70 (by rw [hm]) rfl rfl (by decide +kernel) rfl rfl hd
theorem ce_71 : (5, 111, 0, 69, 868, 0) ∈ calL := by decide +kernel
theorem c_71 {O : pO} {j n0 : Nat} {Q : pQ} {pc : Nat} {L : pL} {S : List pv} {n : Nat} {M : pM} {b : Nat} (hm : mO j = 5) (hd : decode (mB j) pc = .ok (.invokevirtual 111, 3)) : J O j n0 Q pc L (vr (b + 1) :: S) n M = (ob n b = 5 ∧ stk S ≤ 8 ∧ mo O 69 [vr (b + 1)] n M (kI O j n0 Q (pc + 3) L S n)) := by
  have e : kR (mR 69) O j n0 Q (pc + 3) L S n = kI O j n0 Q (pc + 3) L S n := kR_I (Or.inl rfl)
  rw [← e]; exact J_callV (As := []) ce_71 (by rw [hm]) rfl rfl (by decide +kernel) rfl rfl hd
theorem ce_72 : (5, 47, 0, 70, 872, 0) ∈ calL := by decide +kernel
theorem c_72 {O : pO} {j n0 : Nat} {Q : pQ} {pc : Nat} {L : pL} {S : List pv} {n : Nat} {M : pM} {b : Nat} (hm : mO j = 5) (hd : decode (mB j) pc = .ok (.invokevirtual 47, 3)) : J O j n0 Q pc L (vr (b + 1) :: S) n M = (ob n b = 5 ∧ stk S ≤ 8 ∧ mo O 70 [vr (b + 1)] n M (kI O j n0 Q (pc + 3) L S n)) := by
  have e : kR (mR 70) O j n0 Q (pc + 3) L S n = kI O j n0 Q (pc + 3) L S n := kR_I (Or.inr (Or.inl rfl))
  rw [← e]; exact J_callV (As := []) ce_72 (by rw [hm]) rfl rfl (by decide +kernel) rfl rfl hd
theorem ce_73 : (5, 50, 0, 73, 876, 0) ∈ calL := by decide +kernel
theorem c_73 {O : pO} {j n0 : Nat} {Q : pQ} {pc : Nat} {L : pL} {S : List pv} {n : Nat} {M : pM} {b : Nat} (hm : mO j = 5) (hd : decode (mB j) pc = .ok (.invokevirtual 50, 3)) : J O j n0 Q pc L (vr (b + 1) :: S) n M = (ob n b = 5 ∧ stk S ≤ 8 ∧ mo O 73 [vr (b + 1)] n M (kI O j n0 Q (pc + 3) L S n)) := by
  have e : kR (mR 73) O j n0 Q (pc + 3) L S n = kI O j n0 Q (pc + 3) L S n := kR_I (Or.inr (Or.inl rfl))
  rw [← e]; exact J_callV (As := []) ce_73 (by rw [hm]) rfl rfl (by decide +kernel) rfl rfl hd
theorem ce_74 : (5, 123, 0, 71, 880, 0) ∈ calL := by decide +kernel
theorem c_74 {O : pO} {j n0 : Nat} {Q : pQ} {pc : Nat} {L : pL} {S : List pv} {n : Nat} {M : pM} {b : Nat} (hm : mO j = 5) (hd : decode (mB j) pc = .ok (.invokevirtual 123, 3)) : J O j n0 Q pc L (vr (b + 1) :: S) n M = (ob n b = 5 ∧ stk S ≤ 8 ∧ mo O 71 [vr (b + 1)] n M (kI O j n0 Q (pc + 3) L S n)) := by
  have e : kR (mR 71) O j n0 Q (pc + 3) L S n = kI O j n0 Q (pc + 3) L S n := kR_I (Or.inl rfl)
  rw [← e]; exact J_callV (As := []) ce_74 (by rw [hm]) rfl rfl (by decide +kernel) rfl rfl hd
theorem ce_75 : (5, 126, 0, 72, 884, 0) ∈ calL := by decide +kernel
theorem c_75 {O : pO} {j n0 : Nat} {Q : pQ} {pc : Nat} {L : pL} {S : List pv} {n : Nat} {M : pM} {b : Nat} {v1 v2 v3 : pv} (hm : mO j = 5) (hd : decode (mB j) pc = .ok (.invokevirtual 126, 3)) : J O j n0 Q pc L (v3 :: v2 :: v1 :: vr (b + 1) :: S) n M = (ob n b = 5 ∧ stk S ≤ 8 ∧ mo O 72 [vr (b + 1), v1, v2, v3] n M (kI O j n0 Q (pc + 3) L S n)) := by
  have e : kR (mR 72) O j n0 Q (pc + 3) L S n = kI O j n0 Q (pc + 3) L S n := kR_I (Or.inl rfl)
  rw [← e]; exact J_callV (As := [v1, v2, v3]) ce_75 (by rw [hm]) rfl rfl (by decide +kernel) rfl rfl hd
theorem ce_76 : (5, 117, 0, 94, 888, 1) ∈ calL := by decide +kernel
theorem c_76 {O : pO} {j n0 : Nat} {Q : pQ} {pc : Nat} {L : pL} {S : List pv} {n : Nat} {M : pM} {b : Nat} {v1 : pv} (hm : mO j = 5) (hd : decode (mB j) pc = .ok (.invokevirtual 117, 3)) : J O j n0 Q pc L (v1 :: vr (b + 1) :: S) n M = (ob n b = 7 ∧ stk S ≤ 8 ∧ mo O 94 [vr (b + 1), v1] n M (kI O j n0 Q (pc + 3) L S n)) := by
  have e : kR (mR 94) O j n0 Q (pc + 3) L S n = kI O j n0 Q (pc + 3) L S n := kR_I (Or.inr (Or.inl rfl))
  rw [← e]; exact J_callV (As := [v1]) ce_76 (by rw [hm]) rfl rfl (by decide +kernel) rfl rfl hd
theorem ce_77 : (7, 89, 0, 92, 892, 0) ∈ calL := by decide +kernel
theorem c_77 {O : pO} {j n0 : Nat} {Q : pQ} {pc : Nat} {L : pL} {S : List pv} {n : Nat} {M : pM} {b : Nat} {v1 : pv} (hm : mO j = 7) (hd : decode (mB j) pc = .ok (.invokevirtual 89, 3)) : J O j n0 Q pc L (v1 :: vr (b + 1) :: S) n M = (ob n b = 7 ∧ stk S ≤ 8 ∧ mo O 92 [vr (b + 1), v1] n M (kI O j n0 Q (pc + 3) L S n)) := by
  have e : kR (mR 92) O j n0 Q (pc + 3) L S n = kI O j n0 Q (pc + 3) L S n := kR_I (Or.inr (Or.inl rfl))
  rw [← e]; exact J_callV (As := [v1]) ce_77 (by rw [hm]) rfl rfl (by decide +kernel) rfl rfl hd
theorem ce_78 : (5, 53, 0, 74, 896, 0) ∈ calL := by decide +kernel
theorem c_78 {O : pO} {j n0 : Nat} {Q : pQ} {pc : Nat} {L : pL} {S : List pv} {n : Nat} {M : pM} {b : Nat} (hm : mO j = 5) (hd : decode (mB j) pc = .ok (.invokevirtual 53, 3)) : J O j n0 Q pc L (vr (b + 1) :: S) n M = (ob n b = 5 ∧ stk S ≤ 8 ∧ mo O 74 [vr (b + 1)] n M (kI O j n0 Q (pc + 3) L S n)) := by
  have e : kR (mR 74) O j n0 Q (pc + 3) L S n = kI O j n0 Q (pc + 3) L S n := kR_I (Or.inr (Or.inl rfl))
  rw [← e]; exact J_callV (As := []) ce_78 (by rw [hm]) rfl rfl (by decide +kernel) rfl rfl hd
theorem ce_79 : (5, 56, 0, 75, 900, 0) ∈ calL := by decide +kernel
theorem c_79 {O : pO} {j n0 : Nat} {Q : pQ} {pc : Nat} {L : pL} {S : List pv} {n : Nat} {M : pM} {b : Nat} (hm : mO j = 5) (hd : decode (mB j) pc = .ok (.invokevirtual 56, 3)) : J O j n0 Q pc L (vr (b + 1) :: S) n M = (ob n b = 5 ∧ stk S ≤ 8 ∧ mo O 75 [vr (b + 1)] n M (kI O j n0 Q (pc + 3) L S n)) := by
  have e : kR (mR 75) O j n0 Q (pc + 3) L S n = kI O j n0 Q (pc + 3) L S n := kR_I (Or.inr (Or.inl rfl))
  rw [← e]; exact J_callV (As := []) ce_79 (by rw [hm]) rfl rfl (by decide +kernel) rfl rfl hd
theorem ce_80 : (5, 59, 0, 76, 904, 0) ∈ calL := by decide +kernel
theorem c_80 {O : pO} {j n0 : Nat} {Q : pQ} {pc : Nat} {L : pL} {S : List pv} {n : Nat} {M : pM} {b : Nat} (hm : mO j = 5) (hd : decode (mB j) pc = .ok (.invokevirtual 59, 3)) : J O j n0 Q pc L (vr (b + 1) :: S) n M = (ob n b = 5 ∧ stk S ≤ 8 ∧ mo O 76 [vr (b + 1)] n M (kI O j n0 Q (pc + 3) L S n)) := by
  have e : kR (mR 76) O j n0 Q (pc + 3) L S n = kI O j n0 Q (pc + 3) L S n := kR_I (Or.inr (Or.inl rfl))
  rw [← e]; exact J_callV (As := []) ce_80 (by rw [hm]) rfl rfl (by decide +kernel) rfl rfl hd
theorem ce_81 : (5, 146, 0, 88, 908, 1) ∈ calL := by decide +kernel
theorem c_81 {O : pO} {j n0 : Nat} {Q : pQ} {pc : Nat} {L : pL} {S : List pv} {n : Nat} {M : pM} {b : Nat} (hm : mO j = 5) (hd : decode (mB j) pc = .ok (.invokevirtual 146, 3)) : J O j n0 Q pc L (vr (b + 1) :: S) n M = (ob n b = 7 ∧ stk S ≤ 8 ∧ mo O 88 [vr (b + 1)] n M (kL O j n0 Q (pc + 3) L S n)) := by
  have e : kR (mR 88) O j n0 Q (pc + 3) L S n = kL O j n0 Q (pc + 3) L S n := kR_L
  rw [← e]; exact J_callV (As := []) ce_81 (by rw [hm]) rfl rfl (by decide +kernel) rfl rfl hd
theorem ce_82 : (5, 150, 0, 50, 913, 1) ∈ calL := by decide +kernel
theorem c_82 {O : pO} {j n0 : Nat} {Q : pQ} {pc : Nat} {L : pL} {S : List pv} {n : Nat} {M : pM} {b : Nat} {v1 : pv} (hm : mO j = 5) (hd : decode (mB j) pc = .ok (.invokevirtual 150, 3)) : J O j n0 Q pc L (v1 :: vr (b + 1) :: S) n M = (ob n b = 4 ∧ stk S ≤ 8 ∧ mo O 50 [vr (b + 1), v1] n M (kI O j n0 Q (pc + 3) L S n)) := by
  have e : kR (mR 50) O j n0 Q (pc + 3) L S n = kI O j n0 Q (pc + 3) L S n := kR_I (Or.inr (Or.inl rfl))
  rw [← e]; exact J_callV (As := [v1]) ce_82 (by rw [hm]) rfl rfl (by decide +kernel) rfl rfl hd
theorem ce_83 : (5, 154, 0, 77, 917, 0) ∈ calL := by decide +kernel
theorem c_83 {O : pO} {j n0 : Nat} {Q : pQ} {pc : Nat} {L : pL} {S : List pv} {n : Nat} {M : pM} {b : Nat} {v1 : pv} (hm : mO j = 5) (hd : decode (mB j) pc = .ok (.invokevirtual 154, 3)) : J O j n0 Q pc L (v1 :: vr (b + 1) :: S) n M = (ob n b = 5 ∧ stk S ≤ 8 ∧ mo O 77 [vr (b + 1), v1] n M (kI O j n0 Q (pc + 3) L S n)) := by
  have e : kR (mR 77) O j n0 Q (pc + 3) L S n = kI O j n0 Q (pc + 3) L S n := kR_I (Or.inr (Or.inl rfl))
  rw [← e]; exact J_callV (As := [v1]) ce_83 (by rw [hm]) rfl rfl (by decide +kernel) rfl rfl hd
theorem ce_84 : (5, 66, 0, 93, 921, 1) ∈ calL := by decide +kernel
theorem c_84 {O : pO} {j n0 : Nat} {Q : pQ} {pc : Nat} {L : pL} {S : List pv} {n : Nat} {M : pM} {b : Nat} {v1 : pv} (hm : mO j = 5) (hd : decode (mB j) pc = .ok (.invokevirtual 66, 3)) : J O j n0 Q pc L (v1 :: vr (b + 1) :: S) n M = (ob n b = 7 ∧ stk S ≤ 8 ∧ mo O 93 [vr (b + 1), v1] n M (kI O j n0 Q (pc + 3) L S n)) := by
  have e : kR (mR 93) O j n0 Q (pc + 3) L S n = kI O j n0 Q (pc + 3) L S n := kR_I (Or.inr (Or.inl rfl))
  rw [← e]; exact J_callV (As := [v1]) ce_84 (by rw [hm]) rfl rfl (by decide +kernel) rfl rfl hd
theorem ce_85 : (7, 81, 0, 91, 925, 0) ∈ calL := by decide +kernel
theorem c_85 {O : pO} {j n0 : Nat} {Q : pQ} {pc : Nat} {L : pL} {S : List pv} {n : Nat} {M : pM} {b : Nat} {v1 : pv} (hm : mO j = 7) (hd : decode (mB j) pc = .ok (.invokevirtual 81, 3)) : J O j n0 Q pc L (v1 :: vr (b + 1) :: S) n M = (ob n b = 7 ∧ stk S ≤ 8 ∧ mo O 91 [vr (b + 1), v1] n M (kI O j n0 Q (pc + 3) L S n)) := by
  have e : kR (mR 91) O j n0 Q (pc + 3) L S n = kI O j n0 Q (pc + 3) L S n := kR_I (Or.inr (Or.inl rfl))
  rw [← e]; exact J_callV (As := [v1]) ce_85 (by rw [hm]) rfl rfl (by decide +kernel) rfl rfl hd
theorem ce_86 : (11, 116, 0, 162, 929, 0) ∈ calL := by decide +kernel
theorem c_86 {O : pO} {j n0 : Nat} {Q : pQ} {pc : Nat} {L : pL} {S : List pv} {n : Nat} {M : pM} {b : Nat} (hm : mO j = 11) (hd : decode (mB j) pc = .ok (.invokevirtual 116, 3)) : J O j n0 Q pc L (vr (b + 1) :: S) n M = (ob n b = 11 ∧ stk S ≤ 8 ∧ mo O 162 [vr (b + 1)] n M (kV O j n0 Q (pc + 3) L S n)) := by
  have e : kR (mR 162) O j n0 Q (pc + 3) L S n = kV O j n0 Q (pc + 3) L S n := kR_V
  rw [← e]; exact J_callV (As := []) ce_86 (by rw [hm]) rfl rfl (by decide +kernel) rfl rfl hd
theorem ce_87 : (11, 119, 0, 114, 933, 1) ∈ calL := by decide +kernel
theorem c_87 {O : pO} {j n0 : Nat} {Q : pQ} {pc : Nat} {L : pL} {S : List pv} {n : Nat} {M : pM} {b : Nat} (hm : mO j = 11) (hd : decode (mB j) pc = .ok (.invokevirtual 119, 3)) : J O j n0 Q pc L (vr (b + 1) :: S) n M = (ob n b = 9 ∧ stk S ≤ 8 ∧ mo O 114 [vr (b + 1)] n M (kV O j n0 Q (pc + 3) L S n)) := by
  have e : kR (mR 114) O j n0 Q (pc + 3) L S n = kV O j n0 Q (pc + 3) L S n := kR_V
  rw [← e]; exact J_callV (As := []) ce_87 (by rw [hm]) rfl rfl (by decide +kernel) rfl rfl hd
theorem ce_88 : (11, 122, 0, 122, 937, 1) ∈ calL := by decide +kernel
theorem c_88 {O : pO} {j n0 : Nat} {Q : pQ} {pc : Nat} {L : pL} {S : List pv} {n : Nat} {M : pM} {b : Nat} (hm : mO j = 11) (hd : decode (mB j) pc = .ok (.invokevirtual 122, 3)) : J O j n0 Q pc L (vr (b + 1) :: S) n M = (ob n b = 10 ∧ stk S ≤ 8 ∧ mo O 122 [vr (b + 1)] n M (kI O j n0 Q (pc + 3) L S n)) := by
  have e : kR (mR 122) O j n0 Q (pc + 3) L S n = kI O j n0 Q (pc + 3) L S n := kR_I (Or.inl rfl)
  rw [← e]; exact J_callV (As := []) ce_88 (by rw [hm]) rfl rfl (by decide +kernel) rfl rfl hd
theorem ce_89 : (11, 125, 0, 8, 941, 1) ∈ calL := by decide +kernel
theorem c_89 {O : pO} {j n0 : Nat} {Q : pQ} {pc : Nat} {L : pL} {S : List pv} {n : Nat} {M : pM} {b : Nat} (hm : mO j = 11) (hd : decode (mB j) pc = .ok (.invokevirtual 125, 3)) : J O j n0 Q pc L (vr (b + 1) :: S) n M = (ob n b = 1 ∧ stk S ≤ 8 ∧ mo O 8 [vr (b + 1)] n M (kV O j n0 Q (pc + 3) L S n)) := by
  have e : kR (mR 8) O j n0 Q (pc + 3) L S n = kV O j n0 Q (pc + 3) L S n := kR_V
  rw [← e]; exact J_callV (As := []) ce_89 (by rw [hm]) rfl rfl (by decide +kernel) rfl rfl hd
theorem ce_90 : (13, 28, 0, 132, 946, 0) ∈ calL := by decide +kernel
theorem c_90 {O : pO} {j n0 : Nat} {Q : pQ} {pc : Nat} {L : pL} {S : List pv} {n : Nat} {M : pM} {b : Nat} (hm : mO j = 13) (hd : decode (mB j) pc = .ok (.invokevirtual 28, 3)) : J O j n0 Q pc L (vr (b + 1) :: S) n M = (ob n b = 11 ∧ stk S ≤ 8 ∧ mo O 132 [vr (b + 1)] n M (kI O j n0 Q (pc + 3) L S n)) := by
  have e : kR (mR 132) O j n0 Q (pc + 3) L S n = kI O j n0 Q (pc + 3) L S n := kR_I (Or.inl rfl)
  rw [← e]; exact J_callV (As := []) ce_90 (by rw [hm]) rfl rfl (by decide +kernel) rfl rfl hd
theorem ce_91 : (11, 131, 0, 36, 950, 1) ∈ calL := by decide +kernel
theorem c_91 {O : pO} {j n0 : Nat} {Q : pQ} {pc : Nat} {L : pL} {S : List pv} {n : Nat} {M : pM} {b : Nat} {v1 : pv} (hm : mO j = 11) (hd : decode (mB j) pc = .ok (.invokevirtual 131, 3)) : J O j n0 Q pc L (v1 :: vr (b + 1) :: S) n M = (ob n b = 3 ∧ stk S ≤ 8 ∧ mo O 36 [vr (b + 1), v1] n M (kI O j n0 Q (pc + 3) L S n)) := by
  have e : kR (mR 36) O j n0 Q (pc + 3) L S n = kI O j n0 Q (pc + 3) L S n := kR_I (Or.inr (Or.inl rfl))
  rw [← e]; exact J_callV (As := [v1]) ce_91 (by rw [hm]) rfl rfl (by decide +kernel) rfl rfl hd
theorem ce_92 : (3, 25, 0, 83, 954, 1) ∈ calL := by decide +kernel
theorem c_92 {O : pO} {j n0 : Nat} {Q : pQ} {pc : Nat} {L : pL} {S : List pv} {n : Nat} {M : pM} {b : Nat} {v1 : pv} (hm : mO j = 3) (hd : decode (mB j) pc = .ok (.invokevirtual 25, 3)) : J O j n0 Q pc L (v1 :: vr (b + 1) :: S) n M = (ob n b = 7 ∧ stk S ≤ 8 ∧ mo O 83 [vr (b + 1), v1] n M (kV O j n0 Q (pc + 3) L S n)) := by
  have e : kR (mR 83) O j n0 Q (pc + 3) L S n = kV O j n0 Q (pc + 3) L S n := kR_V
  rw [← e]; exact J_callV (As := [v1]) ce_92 (by rw [hm]) rfl rfl (by decide +kernel) rfl rfl hd
theorem ce_93 : (3, 38, 0, 94, 955, 1) ∈ calL := by decide +kernel
theorem c_93 {O : pO} {j n0 : Nat} {Q : pQ} {pc : Nat} {L : pL} {S : List pv} {n : Nat} {M : pM} {b : Nat} {v1 : pv} (hm : mO j = 3) (hd : decode (mB j) pc = .ok (.invokevirtual 38, 3)) : J O j n0 Q pc L (v1 :: vr (b + 1) :: S) n M = (ob n b = 7 ∧ stk S ≤ 8 ∧ mo O 94 [vr (b + 1), v1] n M (kI O j n0 Q (pc + 3) L S n)) := by
  have e : kR (mR 94) O j n0 Q (pc + 3) L S n = kI O j n0 Q (pc + 3) L S n := kR_I (Or.inr (Or.inl rfl))
  rw [← e]; exact J_callV (As := [v1]) ce_93 (by rw [hm]) rfl rfl (by decide +kernel) rfl rfl hd
theorem ce_94 : (3, 42, 0, 38, 956, 0) ∈ calL := by decide +kernel
theorem c_94 {O : pO} {j n0 : Nat} {Q : pQ} {pc : Nat} {L : pL} {S : List pv} {n : Nat} {M : pM} {b : Nat} {v1 : pv} (hm : mO j = 3) (hd : decode (mB j) pc = .ok (.invokevirtual 42, 3)) : J O j n0 Q pc L (v1 :: vr (b + 1) :: S) n M = (ob n b = 3 ∧ stk S ≤ 8 ∧ mo O 38 [vr (b + 1), v1] n M (kI O j n0 Q (pc + 3) L S n)) := by
  have e : kR (mR 38) O j n0 Q (pc + 3) L S n = kI O j n0 Q (pc + 3) L S n := kR_I (Or.inr (Or.inl rfl))
  rw [← e]; exact J_callV (As := [v1]) ce_94 (by rw [hm]) rfl rfl (by decide +kernel) rfl rfl hd
theorem ce_95 : (3, 58, 0, 39, 960, 0) ∈ calL := by decide +kernel
theorem c_95 {O : pO} {j n0 : Nat} {Q : pQ} {pc : Nat} {L : pL} {S : List pv} {n : Nat} {M : pM} {b : Nat} {v1 : pv} (hm : mO j = 3) (hd : decode (mB j) pc = .ok (.invokevirtual 58, 3)) : J O j n0 Q pc L (v1 :: vr (b + 1) :: S) n M = (ob n b = 3 ∧ stk S ≤ 8 ∧ mo O 39 [vr (b + 1), v1] n M (kI O j n0 Q (pc + 3) L S n)) := by
  have e : kR (mR 39) O j n0 Q (pc + 3) L S n = kI O j n0 Q (pc + 3) L S n := kR_I (Or.inr (Or.inl rfl))
  rw [← e]; exact J_callV (As := [v1]) ce_95 (by rw [hm]) rfl rfl (by decide +kernel) rfl rfl hd
theorem ce_96 : (3, 70, 0, 40, 964, 0) ∈ calL := by decide +kernel
theorem c_96 {O : pO} {j n0 : Nat} {Q : pQ} {pc : Nat} {L : pL} {S : List pv} {n : Nat} {M : pM} {b : Nat} {v1 : pv} (hm : mO j = 3) (hd : decode (mB j) pc = .ok (.invokevirtual 70, 3)) : J O j n0 Q pc L (v1 :: vr (b + 1) :: S) n M = (ob n b = 3 ∧ stk S ≤ 8 ∧ mo O 40 [vr (b + 1), v1] n M (kI O j n0 Q (pc + 3) L S n)) := by
  have e : kR (mR 40) O j n0 Q (pc + 3) L S n = kI O j n0 Q (pc + 3) L S n := kR_I (Or.inr (Or.inl rfl))
  rw [← e]; exact J_callV (As := [v1]) ce_96 (by rw [hm]) rfl rfl (by decide +kernel) rfl rfl hd
theorem ce_97 : (3, 61, 0, 92, 968, 1) ∈ calL := by decide +kernel
theorem c_97 {O : pO} {j n0 : Nat} {Q : pQ} {pc : Nat} {L : pL} {S : List pv} {n : Nat} {M : pM} {b : Nat} {v1 : pv} (hm : mO j = 3) (hd : decode (mB j) pc = .ok (.invokevirtual 61, 3)) : J O j n0 Q pc L (v1 :: vr (b + 1) :: S) n M = (ob n b = 7 ∧ stk S ≤ 8 ∧ mo O 92 [vr (b + 1), v1] n M (kI O j n0 Q (pc + 3) L S n)) := by
  have e : kR (mR 92) O j n0 Q (pc + 3) L S n = kI O j n0 Q (pc + 3) L S n := kR_I (Or.inr (Or.inl rfl))
  rw [← e]; exact J_callV (As := [v1]) ce_97 (by rw [hm]) rfl rfl (by decide +kernel) rfl rfl hd
theorem ce_98 : (3, 52, 0, 96, 969, 1) ∈ calL := by decide +kernel
theorem c_98 {O : pO} {j n0 : Nat} {Q : pQ} {pc : Nat} {L : pL} {S : List pv} {n : Nat} {M : pM} {b : Nat} {v1 : pv} (hm : mO j = 3) (hd : decode (mB j) pc = .ok (.invokevirtual 52, 3)) : J O j n0 Q pc L (v1 :: vr (b + 1) :: S) n M = (ob n b = 7 ∧ stk S ≤ 8 ∧ mo O 96 [vr (b + 1), v1] n M (kI O j n0 Q (pc + 3) L S n)) := by
  have e : kR (mR 96) O j n0 Q (pc + 3) L S n = kI O j n0 Q (pc + 3) L S n := kR_I (Or.inr (Or.inl rfl))
  rw [← e]; exact J_callV (As := [v1]) ce_98 (by rw [hm]) rfl rfl (by decide +kernel) rfl rfl hd
theorem ce_99 : (3, 64, 0, 84, 970, 1) ∈ calL := by decide +kernel
theorem c_99 {O : pO} {j n0 : Nat} {Q : pQ} {pc : Nat} {L : pL} {S : List pv} {n : Nat} {M : pM} {b : Nat} (hm : mO j = 3) (hd : decode (mB j) pc = .ok (.invokevirtual 64, 3)) : J O j n0 Q pc L (vr (b + 1) :: S) n M = (ob n b = 7 ∧ stk S ≤ 8 ∧ mo O 84 [vr (b + 1)] n M (kV O j n0 Q (pc + 3) L S n)) := by
  have e : kR (mR 84) O j n0 Q (pc + 3) L S n = kV O j n0 Q (pc + 3) L S n := kR_V
  rw [← e]; exact J_callV (As := []) ce_99 (by rw [hm]) rfl rfl (by decide +kernel) rfl rfl hd
theorem ce_100 : (3, 67, 0, 37, 971, 0) ∈ calL := by decide +kernel
theorem c_100 {O : pO} {j n0 : Nat} {Q : pQ} {pc : Nat} {L : pL} {S : List pv} {n : Nat} {M : pM} {b : Nat} {v1 : pv} (hm : mO j = 3) (hd : decode (mB j) pc = .ok (.invokevirtual 67, 3)) : J O j n0 Q pc L (v1 :: vr (b + 1) :: S) n M = (ob n b = 3 ∧ stk S ≤ 8 ∧ mo O 37 [vr (b + 1), v1] n M (kV O j n0 Q (pc + 3) L S n)) := by
  have e : kR (mR 37) O j n0 Q (pc + 3) L S n = kV O j n0 Q (pc + 3) L S n := kR_V
  rw [← e]; exact J_callV (As := [v1]) ce_100 (by rw [hm]) rfl rfl (by decide +kernel) rfl rfl hd
theorem ce_101 : (3, 73, 0, 41, 975, 0) ∈ calL := by decide +kernel
theorem c_101 {O : pO} {j n0 : Nat} {Q : pQ} {pc : Nat} {L : pL} {S : List pv} {n : Nat} {M : pM} {b : Nat} {v1 : pv} (hm : mO j = 3) (hd : decode (mB j) pc = .ok (.invokevirtual 73, 3)) : J O j n0 Q pc L (v1 :: vr (b + 1) :: S) n M = (ob n b = 3 ∧ stk S ≤ 8 ∧ mo O 41 [vr (b + 1), v1] n M (kI O j n0 Q (pc + 3) L S n)) := by
  have e : kR (mR 41) O j n0 Q (pc + 3) L S n = kI O j n0 Q (pc + 3) L S n := kR_I (Or.inr (Or.inl rfl))
  rw [← e]; exact J_callV (As := [v1]) ce_101 (by rw [hm]) rfl rfl (by decide +kernel) rfl rfl hd
theorem ce_102 : (3, 82, 0, 42, 979, 0) ∈ calL := by decide +kernel
theorem c_102 {O : pO} {j n0 : Nat} {Q : pQ} {pc : Nat} {L : pL} {S : List pv} {n : Nat} {M : pM} {b : Nat} {v1 : pv} (hm : mO j = 3) (hd : decode (mB j) pc = .ok (.invokevirtual 82, 3)) : J O j n0 Q pc L (v1 :: vr (b + 1) :: S) n M = (ob n b = 3 ∧ stk S ≤ 8 ∧ mo O 42 [vr (b + 1), v1] n M (kI O j n0 Q (pc + 3) L S n)) := by
  have e : kR (mR 42) O j n0 Q (pc + 3) L S n = kI O j n0 Q (pc + 3) L S n := kR_I (Or.inr (Or.inl rfl))
  rw [← e]; exact J_callV (As := [v1]) ce_102 (by rw [hm]) rfl rfl (by decide +kernel) rfl rfl hd
theorem ce_103 : (3, 85, 0, 43, 983, 0) ∈ calL := by decide +kernel
theorem c_103 {O : pO} {j n0 : Nat} {Q : pQ} {pc : Nat} {L : pL} {S : List pv} {n : Nat} {M : pM} {b : Nat} {v1 : pv} (hm : mO j = 3) (hd : decode (mB j) pc = .ok (.invokevirtual 85, 3)) : J O j n0 Q pc L (v1 :: vr (b + 1) :: S) n M = (ob n b = 3 ∧ stk S ≤ 8 ∧ mo O 43 [vr (b + 1), v1] n M (kI O j n0 Q (pc + 3) L S n)) := by
  have e : kR (mR 43) O j n0 Q (pc + 3) L S n = kI O j n0 Q (pc + 3) L S n := kR_I (Or.inr (Or.inl rfl))
  rw [← e]; exact J_callV (As := [v1]) ce_103 (by rw [hm]) rfl rfl (by decide +kernel) rfl rfl hd
theorem ce_104 : (3, 76, 0, 91, 987, 1) ∈ calL := by decide +kernel
theorem c_104 {O : pO} {j n0 : Nat} {Q : pQ} {pc : Nat} {L : pL} {S : List pv} {n : Nat} {M : pM} {b : Nat} {v1 : pv} (hm : mO j = 3) (hd : decode (mB j) pc = .ok (.invokevirtual 76, 3)) : J O j n0 Q pc L (v1 :: vr (b + 1) :: S) n M = (ob n b = 7 ∧ stk S ≤ 8 ∧ mo O 91 [vr (b + 1), v1] n M (kI O j n0 Q (pc + 3) L S n)) := by
  have e : kR (mR 91) O j n0 Q (pc + 3) L S n = kI O j n0 Q (pc + 3) L S n := kR_I (Or.inr (Or.inl rfl))
  rw [← e]; exact J_callV (As := [v1]) ce_104 (by rw [hm]) rfl rfl (by decide +kernel) rfl rfl hd
theorem ce_105 : (3, 45, 0, 93, 988, 1) ∈ calL := by decide +kernel
theorem c_105 {O : pO} {j n0 : Nat} {Q : pQ} {pc : Nat} {L : pL} {S : List pv} {n : Nat} {M : pM} {b : Nat} {v1 : pv} (hm : mO j = 3) (hd : decode (mB j) pc = .ok (.invokevirtual 45, 3)) : J O j n0 Q pc L (v1 :: vr (b + 1) :: S) n M = (ob n b = 7 ∧ stk S ≤ 8 ∧ mo O 93 [vr (b + 1), v1] n M (kI O j n0 Q (pc + 3) L S n)) := by
  have e : kR (mR 93) O j n0 Q (pc + 3) L S n = kI O j n0 Q (pc + 3) L S n := kR_I (Or.inr (Or.inl rfl))
  rw [← e]; exact J_callV (As := [v1]) ce_105 (by rw [hm]) rfl rfl (by decide +kernel) rfl rfl hd
theorem ce_106 : (3, 88, 0, 44, 989, 0) ∈ calL := by decide +kernel
theorem c_106 {O : pO} {j n0 : Nat} {Q : pQ} {pc : Nat} {L : pL} {S : List pv} {n : Nat} {M : pM} {b : Nat} (hm : mO j = 3) (hd : decode (mB j) pc = .ok (.invokevirtual 88, 3)) : J O j n0 Q pc L (vr (b + 1) :: S) n M = (ob n b = 3 ∧ stk S ≤ 8 ∧ mo O 44 [vr (b + 1)] n M (kI O j n0 Q (pc + 3) L S n)) := by
  have e : kR (mR 44) O j n0 Q (pc + 3) L S n = kI O j n0 Q (pc + 3) L S n := kR_I (Or.inl rfl)
  rw [← e]; exact J_callV (As := []) ce_106 (by rw [hm]) rfl rfl (by decide +kernel) rfl rfl hd
theorem ce_107 : (13, 32, 0, 133, 993, 0) ∈ calL := by decide +kernel
theorem c_107 {O : pO} {j n0 : Nat} {Q : pQ} {pc : Nat} {L : pL} {S : List pv} {n : Nat} {M : pM} {b : Nat} {v1 : pv} (hm : mO j = 13) (hd : decode (mB j) pc = .ok (.invokevirtual 32, 3)) : J O j n0 Q pc L (v1 :: vr (b + 1) :: S) n M = (ob n b = 11 ∧ stk S ≤ 8 ∧ mo O 133 [vr (b + 1), v1] n M (kI O j n0 Q (pc + 3) L S n)) := by
  have e : kR (mR 133) O j n0 Q (pc + 3) L S n = kI O j n0 Q (pc + 3) L S n := kR_I (Or.inl rfl)
  rw [← e]; exact J_callV (As := [v1]) ce_107 (by rw [hm]) rfl rfl (by decide +kernel) rfl rfl hd
theorem ce_108 : (13, 36, 0, 134, 997, 0) ∈ calL := by decide +kernel
theorem c_108 {O : pO} {j n0 : Nat} {Q : pQ} {pc : Nat} {L : pL} {S : List pv} {n : Nat} {M : pM} {b : Nat} {v1 v2 : pv} (hm : mO j = 13) (hd : decode (mB j) pc = .ok (.invokevirtual 36, 3)) : J O j n0 Q pc L (v2 :: v1 :: vr (b + 1) :: S) n M = (ob n b = 11 ∧ stk S ≤ 8 ∧ mo O 134 [vr (b + 1), v1, v2] n M (kI O j n0 Q (pc + 3) L S n)) := by
  have e : kR (mR 134) O j n0 Q (pc + 3) L S n = kI O j n0 Q (pc + 3) L S n := kR_I (Or.inl rfl)
  rw [← e]; exact J_callV (As := [v1, v2]) ce_108 (by rw [hm]) rfl rfl (by decide +kernel) rfl rfl hd
theorem ce_109 : (11, 137, 1, 167, 1001, 0) ∈ calL := by decide +kernel
theorem c_109 {O : pO} {j n0 : Nat} {Q : pQ} {pc : Nat} {L : pL} {S : List pv} {n : Nat} {M : pM} {v1 : pv} (hm : mO j = 11) (hd : decode (mB j) pc = .ok (.invokestatic 137, 3)) : J O j n0 Q pc L (v1 :: S) n M = (stk S ≤ 8 ∧ mo O 167 [v1] n M (kI O j n0 Q (pc + 3) L S n)) := by
  have e : kR (mR 167) O j n0 Q (pc + 3) L S n = kI O j n0 Q (pc + 3) L S n := kR_I (Or.inr (Or.inl rfl))
  rw [← e]; exact J_callS (As := [v1]) ce_109 (by rw [hm]) rfl rfl (by decide +kernel) rfl rfl hd
theorem ce_110 : (11, 140, 1, 168, 1004, 0) ∈ calL := by decide +kernel
theorem c_110 {O : pO} {j n0 : Nat} {Q : pQ} {pc : Nat} {L : pL} {S : List pv} {n : Nat} {M : pM} {v1 : pv} (hm : mO j = 11) (hd : decode (mB j) pc = .ok (.invokestatic 140, 3)) : J O j n0 Q pc L (v1 :: S) n M = (stk S ≤ 8 ∧ mo O 168 [v1] n M (kI O j n0 Q (pc + 3) L S n)) := by
  have e : kR (mR 168) O j n0 Q (pc + 3) L S n = kI O j n0 Q (pc + 3) L S n := kR_I (Or.inr (Or.inl rfl))
  rw [← e]; exact J_callS (As := [v1]) ce_110 (by rw [hm]) rfl rfl (by decide +kernel) rfl rfl hd
theorem ce_111 : (11, 143, 0, 52, 1007, 1) ∈ calL := by decide +kernel
theorem c_111 {O : pO} {j n0 : Nat} {Q : pQ} {pc : Nat} {L : pL} {S : List pv} {n : Nat} {M : pM} {b : Nat} {v1 v2 : pv} (hm : mO j = 11) (hd : decode (mB j) pc = .ok (.invokevirtual 143, 3)) : J O j n0 Q pc L (v2 :: v1 :: vr (b + 1) :: S) n M = (ob n b = 4 ∧ stk S ≤ 8 ∧ mo O 52 [vr (b + 1), v1, v2] n M (kI O j n0 Q (pc + 3) L S n)) := by
  have e : kR (mR 52) O j n0 Q (pc + 3) L S n = kI O j n0 Q (pc + 3) L S n := kR_I (Or.inl rfl)
  rw [← e]; exact J_callV (As := [v1, v2]) ce_111 (by rw [hm]) rfl rfl (by decide +kernel) rfl rfl hd
theorem ce_112 : (13, 41, 0, 135, 1011, 0) ∈ calL := by decide +kernel
theorem c_112 {O : pO} {j n0 : Nat} {Q : pQ} {pc : Nat} {L : pL} {S : List pv} {n : Nat} {M : pM} {b : Nat} {v1 : pv} (hm : mO j = 13) (hd : decode (mB j) pc = .ok (.invokevirtual 41, 3)) : J O j n0 Q pc L (v1 :: vr (b + 1) :: S) n M = (ob n b = 11 ∧ stk S ≤ 8 ∧ mo O 135 [vr (b + 1), v1] n M (kI O j n0 Q (pc + 3) L S n)) := by
  have e : kR (mR 135) O j n0 Q (pc + 3) L S n = kI O j n0 Q (pc + 3) L S n := kR_I (Or.inl rfl)
  rw [← e]; exact J_callV (As := [v1]) ce_112 (by rw [hm]) rfl rfl (by decide +kernel) rfl rfl hd
theorem ce_113 : (11, 147, 0, 53, 1015, 1) ∈ calL := by decide +kernel
theorem c_113 {O : pO} {j n0 : Nat} {Q : pQ} {pc : Nat} {L : pL} {S : List pv} {n : Nat} {M : pM} {b : Nat} {v1 : pv} (hm : mO j = 11) (hd : decode (mB j) pc = .ok (.invokevirtual 147, 3)) : J O j n0 Q pc L (v1 :: vr (b + 1) :: S) n M = (ob n b = 4 ∧ stk S ≤ 8 ∧ mo O 53 [vr (b + 1), v1] n M (kI O j n0 Q (pc + 3) L S n)) := by
  have e : kR (mR 53) O j n0 Q (pc + 3) L S n = kI O j n0 Q (pc + 3) L S n := kR_I (Or.inl rfl)
  rw [← e]; exact J_callV (As := [v1]) ce_113 (by rw [hm]) rfl rfl (by decide +kernel) rfl rfl hd
theorem ce_114 : (13, 45, 0, 136, 1019, 0) ∈ calL := by decide +kernel
theorem c_114 {O : pO} {j n0 : Nat} {Q : pQ} {pc : Nat} {L : pL} {S : List pv} {n : Nat} {M : pM} {b : Nat} {v1 : pv} (hm : mO j = 13) (hd : decode (mB j) pc = .ok (.invokevirtual 45, 3)) : J O j n0 Q pc L (v1 :: vr (b + 1) :: S) n M = (ob n b = 11 ∧ stk S ≤ 8 ∧ mo O 136 [vr (b + 1), v1] n M (kI O j n0 Q (pc + 3) L S n)) := by
  have e : kR (mR 136) O j n0 Q (pc + 3) L S n = kI O j n0 Q (pc + 3) L S n := kR_I (Or.inl rfl)
  rw [← e]; exact J_callV (As := [v1]) ce_114 (by rw [hm]) rfl rfl (by decide +kernel) rfl rfl hd
theorem ce_115 : (11, 151, 0, 54, 1023, 1) ∈ calL := by decide +kernel
theorem c_115 {O : pO} {j n0 : Nat} {Q : pQ} {pc : Nat} {L : pL} {S : List pv} {n : Nat} {M : pM} {b : Nat} {v1 : pv} (hm : mO j = 11) (hd : decode (mB j) pc = .ok (.invokevirtual 151, 3)) : J O j n0 Q pc L (v1 :: vr (b + 1) :: S) n M = (ob n b = 4 ∧ stk S ≤ 8 ∧ mo O 54 [vr (b + 1), v1] n M (kI O j n0 Q (pc + 3) L S n)) := by
  have e : kR (mR 54) O j n0 Q (pc + 3) L S n = kI O j n0 Q (pc + 3) L S n := kR_I (Or.inl rfl)
  rw [← e]; exact J_callV (As := [v1]) ce_115 (by rw [hm]) rfl rfl (by decide +kernel) rfl rfl hd
theorem ce_116 : (13, 49, 0, 137, 1027, 0) ∈ calL := by decide +kernel
theorem c_116 {O : pO} {j n0 : Nat} {Q : pQ} {pc : Nat} {L : pL} {S : List pv} {n : Nat} {M : pM} {b : Nat} {v1 v2 v3 : pv} (hm : mO j = 13) (hd : decode (mB j) pc = .ok (.invokevirtual 49, 3)) : J O j n0 Q pc L (v3 :: v2 :: v1 :: vr (b + 1) :: S) n M = (ob n b = 11 ∧ stk S ≤ 8 ∧ mo O 137 [vr (b + 1), v1, v2, v3] n M (kI O j n0 Q (pc + 3) L S n)) := by
  have e : kR (mR 137) O j n0 Q (pc + 3) L S n = kI O j n0 Q (pc + 3) L S n := kR_I (Or.inl rfl)
  rw [← e]; exact J_callV (As := [v1, v2, v3]) ce_116 (by rw [hm]) rfl rfl (by decide +kernel) rfl rfl hd
theorem ce_117 : (11, 154, 1, 170, 1031, 0) ∈ calL := by decide +kernel
theorem c_117 {O : pO} {j n0 : Nat} {Q : pQ} {pc : Nat} {L : pL} {S : List pv} {n : Nat} {M : pM} {v1 v2 v3 : pv} (hm : mO j = 11) (hd : decode (mB j) pc = .ok (.invokestatic 154, 3)) : J O j n0 Q pc L (v3 :: v2 :: v1 :: S) n M = (stk S ≤ 8 ∧ mo O 170 [v1, v2, v3] n M (kI O j n0 Q (pc + 3) L S n)) := by
  have e : kR (mR 170) O j n0 Q (pc + 3) L S n = kI O j n0 Q (pc + 3) L S n := kR_I (Or.inr (Or.inl rfl))
  rw [← e]; exact J_callS (As := [v1, v2, v3]) ce_117 (by rw [hm]) rfl rfl (by decide +kernel) rfl rfl hd
theorem ce_118 : (11, 325, 1, 169, 1034, 0) ∈ calL := by decide +kernel
theorem c_118 {O : pO} {j n0 : Nat} {Q : pQ} {pc : Nat} {L : pL} {S : List pv} {n : Nat} {M : pM} {v1 : pv} (hm : mO j = 11) (hd : decode (mB j) pc = .ok (.invokestatic 325, 3)) : J O j n0 Q pc L (v1 :: S) n M = (stk S ≤ 8 ∧ mo O 169 [v1] n M (kI O j n0 Q (pc + 3) L S n)) := by
  have e : kR (mR 169) O j n0 Q (pc + 3) L S n = kI O j n0 Q (pc + 3) L S n := kR_I (Or.inr (Or.inl rfl))
  rw [← e]; exact J_callS (As := [v1]) ce_118 (by rw [hm]) rfl rfl (by decide +kernel) rfl rfl hd
theorem ce_119 : (11, 158, 0, 58, 1037, 1) ∈ calL := by decide +kernel
theorem c_119 {O : pO} {j n0 : Nat} {Q : pQ} {pc : Nat} {L : pL} {S : List pv} {n : Nat} {M : pM} {b : Nat} {v1 v2 : pv} (hm : mO j = 11) (hd : decode (mB j) pc = .ok (.invokevirtual 158, 3)) : J O j n0 Q pc L (v2 :: v1 :: vr (b + 1) :: S) n M = (ob n b = 4 ∧ stk S ≤ 8 ∧ mo O 58 [vr (b + 1), v1, v2] n M (kI O j n0 Q (pc + 3) L S n)) := by
  have e : kR (mR 58) O j n0 Q (pc + 3) L S n = kI O j n0 Q (pc + 3) L S n := kR_I (Or.inl rfl)
  rw [← e]; exact J_callV (As := [v1, v2]) ce_119 (by rw [hm]) rfl rfl (by decide +kernel) rfl rfl hd
theorem ce_120 : (4, 70, 1, 299, 1041, 0) ∈ calL := by decide +kernel
theorem c_120 {O : pO} {j n0 : Nat} {Q : pQ} {pc : Nat} {L : pL} {S : List pv} {n : Nat} {M : pM} {a b : Int} (hm : mO j = 4) (hd : decode (mB j) pc = .ok (.invokestatic 70, 3)) : J O j n0 Q pc L (vi b :: vi a :: S) n M = (stk S ≤ 8 ∧ J O j n0 Q (pc + 3) L (vi (if b < a then b else a) :: S) n M) := J_min ce_120 (by rw [hm]) rfl (by decide +kernel) hd
theorem ce_121 : (13, 54, 0, 138, 1042, 0) ∈ calL := by decide +kernel
theorem c_121 {O : pO} {j n0 : Nat} {Q : pQ} {pc : Nat} {L : pL} {S : List pv} {n : Nat} {M : pM} {b : Nat} {v1 v2 v3 v4 v5 : pv} (hm : mO j = 13) (hd : decode (mB j) pc = .ok (.invokevirtual 54, 3)) : J O j n0 Q pc L (v5 :: v4 :: v3 :: v2 :: v1 :: vr (b + 1) :: S) n M = (ob n b = 11 ∧ stk S ≤ 8 ∧ mo O 138 [vr (b + 1), v1, v2, v3, v4, v5] n M (kI O j n0 Q (pc + 3) L S n)) := by
  have e : kR (mR 138) O j n0 Q (pc + 3) L S n = kI O j n0 Q (pc + 3) L S n := kR_I (Or.inl rfl)
  rw [← e]; exact J_callV (As := [v1, v2, v3, v4, v5]) ce_121 (by rw [hm]) rfl rfl (by decide +kernel) rfl rfl hd
theorem ce_122 : (11, 161, 0, 49, 1046, 1) ∈ calL := by decide +kernel
theorem c_122 {O : pO} {j n0 : Nat} {Q : pQ} {pc : Nat} {L : pL} {S : List pv} {n : Nat} {M : pM} {b : Nat} {v1 : pv} (hm : mO j = 11) (hd : decode (mB j) pc = .ok (.invokevirtual 161, 3)) : J O j n0 Q pc L (v1 :: vr (b + 1) :: S) n M = (ob n b = 4 ∧ stk S ≤ 8 ∧ mo O 49 [vr (b + 1), v1] n M (kI O j n0 Q (pc + 3) L S n)) := by
  have e : kR (mR 49) O j n0 Q (pc + 3) L S n = kI O j n0 Q (pc + 3) L S n := kR_I (Or.inr (Or.inl rfl))
  rw [← e]; exact J_callV (As := [v1]) ce_122 (by rw [hm]) rfl rfl (by decide +kernel) rfl rfl hd
theorem ce_123 : (11, 164, 0, 61, 1050, 1) ∈ calL := by decide +kernel
theorem c_123 {O : pO} {j n0 : Nat} {Q : pQ} {pc : Nat} {L : pL} {S : List pv} {n : Nat} {M : pM} {b : Nat} {v1 v2 v3 v4 v5 : pv} (hm : mO j = 11) (hd : decode (mB j) pc = .ok (.invokevirtual 164, 3)) : J O j n0 Q pc L (v5 :: v4 :: v3 :: v2 :: v1 :: vr (b + 1) :: S) n M = (ob n b = 4 ∧ stk S ≤ 8 ∧ mo O 61 [vr (b + 1), v1, v2, v3, v4, v5] n M (kI O j n0 Q (pc + 3) L S n)) := by
  have e : kR (mR 61) O j n0 Q (pc + 3) L S n = kI O j n0 Q (pc + 3) L S n := kR_I (Or.inl rfl)
  rw [← e]; exact J_callV (As := [v1, v2, v3, v4, v5]) ce_123 (by rw [hm]) rfl rfl (by decide +kernel) rfl rfl hd
theorem ce_124 : (4, 92, 0, 59, 1054, 0) ∈ calL := by decide +kernel
theorem c_124 {O : pO} {j n0 : Nat} {Q : pQ} {pc : Nat} {L : pL} {S : List pv} {n : Nat} {M : pM} {b : Nat} {v1 v2 v3 : pv} (hm : mO j = 4) (hd : decode (mB j) pc = .ok (.invokevirtual 92, 3)) : J O j n0 Q pc L (v3 :: v2 :: v1 :: vr (b + 1) :: S) n M = (ob n b = 4 ∧ stk S ≤ 8 ∧ mo O 59 [vr (b + 1), v1, v2, v3] n M (kI O j n0 Q (pc + 3) L S n)) := by
  have e : kR (mR 59) O j n0 Q (pc + 3) L S n = kI O j n0 Q (pc + 3) L S n := kR_I (Or.inl rfl)
  rw [← e]; exact J_callV (As := [v1, v2, v3]) ce_124 (by rw [hm]) rfl rfl (by decide +kernel) rfl rfl hd
theorem ce_125 : (4, 76, 0, 52, 1058, 0) ∈ calL := by decide +kernel
theorem c_125 {O : pO} {j n0 : Nat} {Q : pQ} {pc : Nat} {L : pL} {S : List pv} {n : Nat} {M : pM} {b : Nat} {v1 v2 : pv} (hm : mO j = 4) (hd : decode (mB j) pc = .ok (.invokevirtual 76, 3)) : J O j n0 Q pc L (v2 :: v1 :: vr (b + 1) :: S) n M = (ob n b = 4 ∧ stk S ≤ 8 ∧ mo O 52 [vr (b + 1), v1, v2] n M (kI O j n0 Q (pc + 3) L S n)) := by
  have e : kR (mR 52) O j n0 Q (pc + 3) L S n = kI O j n0 Q (pc + 3) L S n := kR_I (Or.inl rfl)
  rw [← e]; exact J_callV (As := [v1, v2]) ce_125 (by rw [hm]) rfl rfl (by decide +kernel) rfl rfl hd
theorem ce_126 : (4, 96, 0, 54, 1059, 0) ∈ calL := by decide +kernel
theorem c_126 {O : pO} {j n0 : Nat} {Q : pQ} {pc : Nat} {L : pL} {S : List pv} {n : Nat} {M : pM} {b : Nat} {v1 : pv} (hm : mO j = 4) (hd : decode (mB j) pc = .ok (.invokevirtual 96, 3)) : J O j n0 Q pc L (v1 :: vr (b + 1) :: S) n M = (ob n b = 4 ∧ stk S ≤ 8 ∧ mo O 54 [vr (b + 1), v1] n M (kI O j n0 Q (pc + 3) L S n)) := by
  have e : kR (mR 54) O j n0 Q (pc + 3) L S n = kI O j n0 Q (pc + 3) L S n := kR_I (Or.inl rfl)
  rw [← e]; exact J_callV (As := [v1]) ce_126 (by rw [hm]) rfl rfl (by decide +kernel) rfl rfl hd
theorem ce_127 : (4, 99, 1, 62, 1060, 0) ∈ calL := by decide +kernel
theorem c_127 {O : pO} {j n0 : Nat} {Q : pQ} {pc : Nat} {L : pL} {S : List pv} {n : Nat} {M : pM} {v1 v2 v3 : pv} (hm : mO j = 4) (hd : decode (mB j) pc = .ok (.invokestatic 99, 3)) : J O j n0 Q pc L (v3 :: v2 :: v1 :: S) n M = (stk S ≤ 8 ∧ mo O 62 [v1, v2, v3] n M (kI O j n0 Q (pc + 3) L S n)) := by
  have e : kR (mR 62) O j n0 Q (pc + 3) L S n = kI O j n0 Q (pc + 3) L S n := kR_I (Or.inl rfl)
  rw [← e]; exact J_callS (As := [v1, v2, v3]) ce_127 (by rw [hm]) rfl rfl (by decide +kernel) rfl rfl hd
theorem ce_128 : (4, 89, 1, 298, 1063, 0) ∈ calL := by decide +kernel
theorem c_128 {O : pO} {j n0 : Nat} {Q : pQ} {pc : Nat} {L : pL} {S : List pv} {n : Nat} {M : pM} {a b : Int} (hm : mO j = 4) (hd : decode (mB j) pc = .ok (.invokestatic 89, 3)) : J O j n0 Q pc L (vi b :: vi a :: S) n M = (stk S ≤ 8 ∧ J O j n0 Q (pc + 3) L (vi (if a < b then b else a) :: S) n M) := J_max ce_128 (by rw [hm]) rfl (by decide +kernel) hd
theorem ce_129 : (4, 102, 1, 171, 1064, 1) ∈ calL := by decide +kernel
theorem c_129 {O : pO} {j n0 : Nat} {Q : pQ} {pc : Nat} {L : pL} {S : List pv} {n : Nat} {M : pM} {v1 v2 : pv} (hm : mO j = 4) (hd : decode (mB j) pc = .ok (.invokestatic 102, 3)) : J O j n0 Q pc L (v2 :: v1 :: S) n M = (stk S ≤ 8 ∧ mo O 171 [v1, v2] n M (kI O j n0 Q (pc + 3) L S n)) := by
  have e : kR (mR 171) O j n0 Q (pc + 3) L S n = kI O j n0 Q (pc + 3) L S n := kR_I (Or.inl rfl)
  rw [← e]; exact J_callS (As := [v1, v2]) ce_129 (by rw [hm]) rfl rfl (by decide +kernel) rfl rfl hd
theorem ce_130 : (4, 105, 0, 60, 1065, 0) ∈ calL := by decide +kernel
theorem c_130 {O : pO} {j n0 : Nat} {Q : pQ} {pc : Nat} {L : pL} {S : List pv} {n : Nat} {M : pM} {b : Nat} {v1 v2 v3 v4 : pv} (hm : mO j = 4) (hd : decode (mB j) pc = .ok (.invokevirtual 105, 3)) : J O j n0 Q pc L (v4 :: v3 :: v2 :: v1 :: vr (b + 1) :: S) n M = (ob n b = 4 ∧ stk S ≤ 8 ∧ mo O 60 [vr (b + 1), v1, v2, v3, v4] n M (kI O j n0 Q (pc + 3) L S n)) := by
  have e : kR (mR 60) O j n0 Q (pc + 3) L S n = kI O j n0 Q (pc + 3) L S n := kR_I (Or.inl rfl)
  rw [← e]; exact J_callV (As := [v1, v2, v3, v4]) ce_130 (by rw [hm]) rfl rfl (by decide +kernel) rfl rfl hd
theorem ce_131 : (4, 79, 0, 53, 1069, 0) ∈ calL := by decide +kernel
theorem c_131 {O : pO} {j n0 : Nat} {Q : pQ} {pc : Nat} {L : pL} {S : List pv} {n : Nat} {M : pM} {b : Nat} {v1 : pv} (hm : mO j = 4) (hd : decode (mB j) pc = .ok (.invokevirtual 79, 3)) : J O j n0 Q pc L (v1 :: vr (b + 1) :: S) n M = (ob n b = 4 ∧ stk S ≤ 8 ∧ mo O 53 [vr (b + 1), v1] n M (kI O j n0 Q (pc + 3) L S n)) := by
  have e : kR (mR 53) O j n0 Q (pc + 3) L S n = kI O j n0 Q (pc + 3) L S n := kR_I (Or.inl rfl)
  rw [← e]; exact J_callV (As := [v1]) ce_131 (by rw [hm]) rfl rfl (by decide +kernel) rfl rfl hd
theorem ce_132 : (4, 109, 0, 58, 1072, 0) ∈ calL := by decide +kernel
theorem c_132 {O : pO} {j n0 : Nat} {Q : pQ} {pc : Nat} {L : pL} {S : List pv} {n : Nat} {M : pM} {b : Nat} {v1 v2 : pv} (hm : mO j = 4) (hd : decode (mB j) pc = .ok (.invokevirtual 109, 3)) : J O j n0 Q pc L (v2 :: v1 :: vr (b + 1) :: S) n M = (ob n b = 4 ∧ stk S ≤ 8 ∧ mo O 58 [vr (b + 1), v1, v2] n M (kI O j n0 Q (pc + 3) L S n)) := by
  have e : kR (mR 58) O j n0 Q (pc + 3) L S n = kI O j n0 Q (pc + 3) L S n := kR_I (Or.inl rfl)
  rw [← e]; exact J_callV (As := [v1, v2]) ce_132 (by rw [hm]) rfl rfl (by decide +kernel) rfl rfl hd
theorem ce_133 : (13, 58, 0, 139, 1073, 0) ∈ calL := by decide +kernel
theorem c_133 {O : pO} {j n0 : Nat} {Q : pQ} {pc : Nat} {L : pL} {S : List pv} {n : Nat} {M : pM} {b : Nat} {v1 v2 v3 v4 : pv} (hm : mO j = 13) (hd : decode (mB j) pc = .ok (.invokevirtual 58, 3)) : J O j n0 Q pc L (v4 :: v3 :: v2 :: v1 :: vr (b + 1) :: S) n M = (ob n b = 11 ∧ stk S ≤ 8 ∧ mo O 139 [vr (b + 1), v1, v2, v3, v4] n M (kI O j n0 Q (pc + 3) L S n)) := by
  have e : kR (mR 139) O j n0 Q (pc + 3) L S n = kI O j n0 Q (pc + 3) L S n := kR_I (Or.inr (Or.inl rfl))
  rw [← e]; exact J_callV (As := [v1, v2, v3, v4]) ce_133 (by rw [hm]) rfl rfl (by decide +kernel) rfl rfl hd
theorem ce_134 : (11, 168, 0, 1, 1077, 1) ∈ calL := by decide +kernel
theorem c_134 {O : pO} {j n0 : Nat} {Q : pQ} {pc : Nat} {L : pL} {S : List pv} {n : Nat} {M : pM} {b : Nat} {v1 v2 v3 v4 : pv} (hm : mO j = 11) (hd : decode (mB j) pc = .ok (.invokevirtual 168, 3)) : J O j n0 Q pc L (v4 :: v3 :: v2 :: v1 :: vr (b + 1) :: S) n M = (ob n b = 0 ∧ stk S ≤ 8 ∧ mo O 1 [vr (b + 1), v1, v2, v3, v4] n M (kI O j n0 Q (pc + 3) L S n)) := by
  have e : kR (mR 1) O j n0 Q (pc + 3) L S n = kI O j n0 Q (pc + 3) L S n := kR_I (Or.inr (Or.inl rfl))
  rw [← e]; exact J_callV (As := [v1, v2, v3, v4]) ce_134 (by rw [hm]) rfl rfl (by decide +kernel) rfl rfl hd
theorem ce_135 : (0, 15, 1, 167, 1081, 1) ∈ calL := by decide +kernel
theorem c_135 {O : pO} {j n0 : Nat} {Q : pQ} {pc : Nat} {L : pL} {S : List pv} {n : Nat} {M : pM} {v1 : pv} (hm : mO j = 0) (hd : decode (mB j) pc = .ok (.invokestatic 15, 3)) : J O j n0 Q pc L (v1 :: S) n M = (stk S ≤ 8 ∧ mo O 167 [v1] n M (kI O j n0 Q (pc + 3) L S n)) := by
  have e : kR (mR 167) O j n0 Q (pc + 3) L S n = kI O j n0 Q (pc + 3) L S n := kR_I (Or.inr (Or.inl rfl))
  rw [← e]; exact J_callS (As := [v1]) ce_135 (by rw [hm]) rfl rfl (by decide +kernel) rfl rfl hd
theorem ce_136 : (0, 19, 1, 2, 1082, 0) ∈ calL := by decide +kernel
theorem c_136 {O : pO} {j n0 : Nat} {Q : pQ} {pc : Nat} {L : pL} {S : List pv} {n : Nat} {M : pM} {v1 v2 : pv} (hm : mO j = 0) (hd : decode (mB j) pc = .ok (.invokestatic 19, 3)) : J O j n0 Q pc L (v2 :: v1 :: S) n M = (stk S ≤ 8 ∧ mo O 2 [v1, v2] n M (kI O j n0 Q (pc + 3) L S n)) := by
  have e : kR (mR 2) O j n0 Q (pc + 3) L S n = kI O j n0 Q (pc + 3) L S n := kR_I (Or.inr (Or.inl rfl))
  rw [← e]; exact J_callS (As := [v1, v2]) ce_136 (by rw [hm]) rfl rfl (by decide +kernel) rfl rfl hd
theorem ce_137 : (0, 27, 0, 3, 1085, 0) ∈ calL := by decide +kernel
theorem c_137 {O : pO} {j n0 : Nat} {Q : pQ} {pc : Nat} {L : pL} {S : List pv} {n : Nat} {M : pM} {b : Nat} {v1 : pv} (hm : mO j = 0) (hd : decode (mB j) pc = .ok (.invokevirtual 27, 3)) : J O j n0 Q pc L (v1 :: vr (b + 1) :: S) n M = (ob n b = 0 ∧ stk S ≤ 8 ∧ mo O 3 [vr (b + 1), v1] n M (kV O j n0 Q (pc + 3) L S n)) := by
  have e : kR (mR 3) O j n0 Q (pc + 3) L S n = kV O j n0 Q (pc + 3) L S n := kR_V
  rw [← e]; exact J_callV (As := [v1]) ce_137 (by rw [hm]) rfl rfl (by decide +kernel) rfl rfl hd
theorem ce_138 : (13, 63, 0, 140, 1089, 0) ∈ calL := by decide +kernel
theorem c_138 {O : pO} {j n0 : Nat} {Q : pQ} {pc : Nat} {L : pL} {S : List pv} {n : Nat} {M : pM} {b : Nat} {v1 v2 v3 v4 v5 : pv} (hm : mO j = 13) (hd : decode (mB j) pc = .ok (.invokevirtual 63, 3)) : J O j n0 Q pc L (v5 :: v4 :: v3 :: v2 :: v1 :: vr (b + 1) :: S) n M = (ob n b = 11 ∧ stk S ≤ 8 ∧ mo O 140 [vr (b + 1), v1, v2, v3, v4, v5] n M (kI O j n0 Q (pc + 3) L S n)) := by
  have e : kR (mR 140) O j n0 Q (pc + 3) L S n = kI O j n0 Q (pc + 3) L S n := kR_I (Or.inl rfl)
  rw [← e]; exact J_callV (As := [v1, v2, v3, v4, v5]) ce_138 (by rw [hm]) rfl rfl (by decide +kernel) rfl rfl hd
theorem ce_139 : (11, 172, 0, 164, 1093, 0) ∈ calL := by decide +kernel
theorem c_139 {O : pO} {j n0 : Nat} {Q : pQ} {pc : Nat} {L : pL} {S : List pv} {n : Nat} {M : pM} {b : Nat} {v1 v2 v3 v4 v5 : pv} (hm : mO j = 11) (hd : decode (mB j) pc = .ok (.invokevirtual 172, 3)) : J O j n0 Q pc L (v5 :: v4 :: v3 :: v2 :: v1 :: vr (b + 1) :: S) n M = (ob n b = 11 ∧ stk S ≤ 8 ∧ mo O 164 [vr (b + 1), v1, v2, v3, v4, v5] n M (kI O j n0 Q (pc + 3) L S n)) := by
  have e : kR (mR 164) O j n0 Q (pc + 3) L S n = kI O j n0 Q (pc + 3) L S n := kR_I (Or.inr (Or.inl rfl))
  rw [← e]; exact J_callV (As := [v1, v2, v3, v4, v5]) ce_139 (by rw [hm]) rfl rfl (by decide +kernel) rfl rfl hd
theorem ce_140 : (11, 185, 0, 163, 1097, 0) ∈ calL := by decide +kernel
theorem c_140 {O : pO} {j n0 : Nat} {Q : pQ} {pc : Nat} {L : pL} {S : List pv} {n : Nat} {M : pM} {b : Nat} {v1 v2 v3 v4 : pv} (hm : mO j = 11) (hd : decode (mB j) pc = .ok (.invokevirtual 185, 3)) : J O j n0 Q pc L (v4 :: v3 :: v2 :: v1 :: vr (b + 1) :: S) n M = (ob n b = 11 ∧ stk S ≤ 8 ∧ mo O 163 [vr (b + 1), v1, v2, v3, v4] n M (kI O j n0 Q (pc + 3) L S n)) := by
  have e : kR (mR 163) O j n0 Q (pc + 3) L S n = kI O j n0 Q (pc + 3) L S n := kR_I (Or.inr (Or.inl rfl))
  rw [← e]; exact J_callV (As := [v1, v2, v3, v4]) ce_140 (by rw [hm]) rfl rfl (by decide +kernel) rfl rfl hd
theorem ce_141 : (11, 328, 0, 9, 1101, 1) ∈ calL := by decide +kernel
theorem c_141 {O : pO} {j n0 : Nat} {Q : pQ} {pc : Nat} {L : pL} {S : List pv} {n : Nat} {M : pM} {b : Nat} {v1 v2 v3 v4 v5 : pv} (hm : mO j = 11) (hd : decode (mB j) pc = .ok (.invokevirtual 328, 3)) : J O j n0 Q pc L (v5 :: v4 :: v3 :: v2 :: v1 :: vr (b + 1) :: S) n M = (ob n b = 1 ∧ stk S ≤ 8 ∧ mo O 9 [vr (b + 1), v1, v2, v3, v4, v5] n M (kI O j n0 Q (pc + 3) L S n)) := by
  have e : kR (mR 9) O j n0 Q (pc + 3) L S n = kI O j n0 Q (pc + 3) L S n := kR_I (Or.inr (Or.inl rfl))
  rw [← e]; exact J_callV (As := [v1, v2, v3, v4, v5]) ce_141 (by rw [hm]) rfl rfl (by decide +kernel) rfl rfl hd
theorem ce_142 : (1, 63, 0, 10, 1105, 0) ∈ calL := by decide +kernel
theorem c_142 {O : pO} {j n0 : Nat} {Q : pQ} {pc : Nat} {L : pL} {S : List pv} {n : Nat} {M : pM} {b : Nat} {v1 v2 v3 v4 v5 : pv} (hm : mO j = 1) (hd : decode (mB j) pc = .ok (.invokevirtual 63, 3)) : J O j n0 Q pc L (v5 :: v4 :: v3 :: v2 :: v1 :: vr (b + 1) :: S) n M = (ob n b = 1 ∧ stk S ≤ 8 ∧ mo O 10 [vr (b + 1), v1, v2, v3, v4, v5] n M (kV O j n0 Q (pc + 3) L S n)) := by
  have e : kR (mR 10) O j n0 Q (pc + 3) L S n = kV O j n0 Q (pc + 3) L S n := kR_V
  rw [← e]; exact J_callV (As := [v1, v2, v3, v4, v5]) ce_142 (by rw [hm]) rfl rfl (by decide +kernel) rfl rfl hd
theorem ce_143 : (11, 331, 0, 11, 1109, 1) ∈ calL := by decide +kernel
theorem c_143 {O : pO} {j n0 : Nat} {Q : pQ} {pc : Nat} {L : pL} {S : List pv} {n : Nat} {M : pM} {b : Nat} {v1 v2 : pv} (hm : mO j = 11) (hd : decode (mB j) pc = .ok (.invokevirtual 331, 3)) : J O j n0 Q pc L (v2 :: v1 :: vr (b + 1) :: S) n M = (ob n b = 1 ∧ stk S ≤ 8 ∧ mo O 11 [vr (b + 1), v1, v2] n M (kV O j n0 Q (pc + 3) L S n)) := by
  have e : kR (mR 11) O j n0 Q (pc + 3) L S n = kV O j n0 Q (pc + 3) L S n := kR_V
  rw [← e]; exact J_callV (As := [v1, v2]) ce_143 (by rw [hm]) rfl rfl (by decide +kernel) rfl rfl hd
theorem ce_144 : (1, 67, 0, 13, 1113, 0) ∈ calL := by decide +kernel
theorem c_144 {O : pO} {j n0 : Nat} {Q : pQ} {pc : Nat} {L : pL} {S : List pv} {n : Nat} {M : pM} {b : Nat} {v1 v2 : pv} (hm : mO j = 1) (hd : decode (mB j) pc = .ok (.invokevirtual 67, 3)) : J O j n0 Q pc L (v2 :: v1 :: vr (b + 1) :: S) n M = (ob n b = 1 ∧ stk S ≤ 8 ∧ mo O 13 [vr (b + 1), v1, v2] n M (kV O j n0 Q (pc + 3) L S n)) := by
  have e : kR (mR 13) O j n0 Q (pc + 3) L S n = kV O j n0 Q (pc + 3) L S n := kR_V
  rw [← e]; exact J_callV (As := [v1, v2]) ce_144 (by rw [hm]) rfl rfl (by decide +kernel) rfl rfl hd
theorem ce_145 : (1, 104, 1, 321, 1117, 0) ∈ calL := by decide +kernel
theorem c_145 {O : pO} {j n0 : Nat} {Q : pQ} {pc : Nat} {L : pL} {S : List pv} {n : Nat} {M : pM} {v1 v2 : pv} (hm : mO j = 1) (hd : decode (mB j) pc = .ok (.invokestatic 104, 3)) : J O j n0 Q pc L (v2 :: v1 :: S) n M = (stk S ≤ 8 ∧ mo O 321 [v1, v2] n M (kV O j n0 Q (pc + 3) L S n)) := by
  have e : kR (mR 321) O j n0 Q (pc + 3) L S n = kV O j n0 Q (pc + 3) L S n := kR_V
  rw [← e]; exact J_callS (As := [v1, v2]) ce_145 (by rw [hm]) rfl rfl (by decide +kernel) rfl rfl hd
theorem ce_146 : (1, 110, 0, 6, 1120, 1) ∈ calL := by decide +kernel
theorem c_146 {O : pO} {j n0 : Nat} {Q : pQ} {pc : Nat} {L : pL} {S : List pv} {n : Nat} {M : pM} {b : Nat} {v1 v2 : pv} (hm : mO j = 1) (hd : decode (mB j) pc = .ok (.invokevirtual 110, 3)) : J O j n0 Q pc L (v2 :: v1 :: vr (b + 1) :: S) n M = (ob n b = 0 ∧ stk S ≤ 8 ∧ mo O 6 [vr (b + 1), v1, v2] n M (kI O j n0 Q (pc + 3) L S n)) := by
  have e : kR (mR 6) O j n0 Q (pc + 3) L S n = kI O j n0 Q (pc + 3) L S n := kR_I (Or.inl rfl)
  rw [← e]; exact J_callV (As := [v1, v2]) ce_146 (by rw [hm]) rfl rfl (by decide +kernel) rfl rfl hd
theorem ce_147 : (1, 113, 1, 14, 1124, 0) ∈ calL := by decide +kernel
theorem c_147 {O : pO} {j n0 : Nat} {Q : pQ} {pc : Nat} {L : pL} {S : List pv} {n : Nat} {M : pM} {v1 v2 v3 : pv} (hm : mO j = 1) (hd : decode (mB j) pc = .ok (.invokestatic 113, 3)) : J O j n0 Q pc L (v3 :: v2 :: v1 :: S) n M = (stk S ≤ 8 ∧ mo O 14 [v1, v2, v3] n M (kI O j n0 Q (pc + 3) L S n)) := by
  have e : kR (mR 14) O j n0 Q (pc + 3) L S n = kI O j n0 Q (pc + 3) L S n := kR_I (Or.inl rfl)
  rw [← e]; exact J_callS (As := [v1, v2, v3]) ce_147 (by rw [hm]) rfl rfl (by decide +kernel) rfl rfl hd
theorem ce_148 : (1, 77, 0, 20, 1127, 0) ∈ calL := by decide +kernel
theorem c_148 {O : pO} {j n0 : Nat} {Q : pQ} {pc : Nat} {L : pL} {S : List pv} {n : Nat} {M : pM} {b : Nat} {v1 v2 : pv} (hm : mO j = 1) (hd : decode (mB j) pc = .ok (.invokevirtual 77, 3)) : J O j n0 Q pc L (v2 :: v1 :: vr (b + 1) :: S) n M = (ob n b = 1 ∧ stk S ≤ 8 ∧ mo O 20 [vr (b + 1), v1, v2] n M (kV O j n0 Q (pc + 3) L S n)) := by
  have e : kR (mR 20) O j n0 Q (pc + 3) L S n = kV O j n0 Q (pc + 3) L S n := kR_V
  rw [← e]; exact J_callV (As := [v1, v2]) ce_148 (by rw [hm]) rfl rfl (by decide +kernel) rfl rfl hd
theorem ce_149 : (1, 153, 0, 19, 1131, 0) ∈ calL := by decide +kernel
theorem c_149 {O : pO} {j n0 : Nat} {Q : pQ} {pc : Nat} {L : pL} {S : List pv} {n : Nat} {M : pM} {b : Nat} {v1 : pv} (hm : mO j = 1) (hd : decode (mB j) pc = .ok (.invokevirtual 153, 3)) : J O j n0 Q pc L (v1 :: vr (b + 1) :: S) n M = (ob n b = 1 ∧ stk S ≤ 8 ∧ mo O 19 [vr (b + 1), v1] n M (kV O j n0 Q (pc + 3) L S n)) := by
  have e : kR (mR 19) O j n0 Q (pc + 3) L S n = kV O j n0 Q (pc + 3) L S n := kR_V
  rw [← e]; exact J_callV (As := [v1]) ce_149 (by rw [hm]) rfl rfl (by decide +kernel) rfl rfl hd
theorem ce_150 : (1, 134, 1, 299, 1135, 0) ∈ calL := by decide +kernel
theorem c_150 {O : pO} {j n0 : Nat} {Q : pQ} {pc : Nat} {L : pL} {S : List pv} {n : Nat} {M : pM} {a b : Int} (hm : mO j = 1) (hd : decode (mB j) pc = .ok (.invokestatic 134, 3)) : J O j n0 Q pc L (vi b :: vi a :: S) n M = (stk S ≤ 8 ∧ J O j n0 Q (pc + 3) L (vi (if b < a then b else a) :: S) n M) := J_min ce_150 (by rw [hm]) rfl (by decide +kernel) hd
theorem ce_151 : (1, 142, 0, 54, 1136, 1) ∈ calL := by decide +kernel
theorem c_151 {O : pO} {j n0 : Nat} {Q : pQ} {pc : Nat} {L : pL} {S : List pv} {n : Nat} {M : pM} {b : Nat} {v1 : pv} (hm : mO j = 1) (hd : decode (mB j) pc = .ok (.invokevirtual 142, 3)) : J O j n0 Q pc L (v1 :: vr (b + 1) :: S) n M = (ob n b = 4 ∧ stk S ≤ 8 ∧ mo O 54 [vr (b + 1), v1] n M (kI O j n0 Q (pc + 3) L S n)) := by
  have e : kR (mR 54) O j n0 Q (pc + 3) L S n = kI O j n0 Q (pc + 3) L S n := kR_I (Or.inl rfl)
  rw [← e]; exact J_callV (As := [v1]) ce_151 (by rw [hm]) rfl rfl (by decide +kernel) rfl rfl hd
theorem ce_152 : (1, 149, 0, 60, 1137, 1) ∈ calL := by decide +kernel
theorem c_152 {O : pO} {j n0 : Nat} {Q : pQ} {pc : Nat} {L : pL} {S : List pv} {n : Nat} {M : pM} {b : Nat} {v1 v2 v3 v4 : pv} (hm : mO j = 1) (hd : decode (mB j) pc = .ok (.invokevirtual 149, 3)) : J O j n0 Q pc L (v4 :: v3 :: v2 :: v1 :: vr (b + 1) :: S) n M = (ob n b = 4 ∧ stk S ≤ 8 ∧ mo O 60 [vr (b + 1), v1, v2, v3, v4] n M (kI O j n0 Q (pc + 3) L S n)) := by
  have e : kR (mR 60) O j n0 Q (pc + 3) L S n = kI O j n0 Q (pc + 3) L S n := kR_I (Or.inl rfl)
  rw [← e]; exact J_callV (As := [v1, v2, v3, v4]) ce_152 (by rw [hm]) rfl rfl (by decide +kernel) rfl rfl hd
theorem ce_153 : (1, 119, 0, 4, 1138, 1) ∈ calL := by decide +kernel
theorem c_153 {O : pO} {j n0 : Nat} {Q : pQ} {pc : Nat} {L : pL} {S : List pv} {n : Nat} {M : pM} {b : Nat} (hm : mO j = 1) (hd : decode (mB j) pc = .ok (.invokevirtual 119, 3)) : J O j n0 Q pc L (vr (b + 1) :: S) n M = (ob n b = 0 ∧ stk S ≤ 8 ∧ mo O 4 [vr (b + 1)] n M (kI O j n0 Q (pc + 3) L S n)) := by
  have e : kR (mR 4) O j n0 Q (pc + 3) L S n = kI O j n0 Q (pc + 3) L S n := kR_I (Or.inl rfl)
  rw [← e]; exact J_callV (As := []) ce_153 (by rw [hm]) rfl rfl (by decide +kernel) rfl rfl hd
theorem ce_154 : (0, 31, 1, 298, 1142, 0) ∈ calL := by decide +kernel
theorem c_154 {O : pO} {j n0 : Nat} {Q : pQ} {pc : Nat} {L : pL} {S : List pv} {n : Nat} {M : pM} {a b : Int} (hm : mO j = 0) (hd : decode (mB j) pc = .ok (.invokestatic 31, 3)) : J O j n0 Q pc L (vi b :: vi a :: S) n M = (stk S ≤ 8 ∧ J O j n0 Q (pc + 3) L (vi (if a < b then b else a) :: S) n M) := J_max ce_154 (by rw [hm]) rfl (by decide +kernel) hd
theorem ce_155 : (1, 157, 0, 58, 1143, 1) ∈ calL := by decide +kernel
theorem c_155 {O : pO} {j n0 : Nat} {Q : pQ} {pc : Nat} {L : pL} {S : List pv} {n : Nat} {M : pM} {b : Nat} {v1 v2 : pv} (hm : mO j = 1) (hd : decode (mB j) pc = .ok (.invokevirtual 157, 3)) : J O j n0 Q pc L (v2 :: v1 :: vr (b + 1) :: S) n M = (ob n b = 4 ∧ stk S ≤ 8 ∧ mo O 58 [vr (b + 1), v1, v2] n M (kI O j n0 Q (pc + 3) L S n)) := by
  have e : kR (mR 58) O j n0 Q (pc + 3) L S n = kI O j n0 Q (pc + 3) L S n := kR_I (Or.inl rfl)
  rw [← e]; exact J_callV (As := [v1, v2]) ce_155 (by rw [hm]) rfl rfl (by decide +kernel) rfl rfl hd
theorem ce_156 : (1, 126, 1, 15, 1144, 0) ∈ calL := by decide +kernel
theorem c_156 {O : pO} {j n0 : Nat} {Q : pQ} {pc : Nat} {L : pL} {S : List pv} {n : Nat} {M : pM} {v1 : pv} (hm : mO j = 1) (hd : decode (mB j) pc = .ok (.invokestatic 126, 3)) : J O j n0 Q pc L (v1 :: S) n M = (stk S ≤ 8 ∧ mo O 15 [v1] n M (kL O j n0 Q (pc + 3) L S n)) := by
  have e : kR (mR 15) O j n0 Q (pc + 3) L S n = kL O j n0 Q (pc + 3) L S n := kR_L
  rw [← e]; exact J_callS (As := [v1]) ce_156 (by rw [hm]) rfl rfl (by decide +kernel) rfl rfl hd
theorem ce_157 : (1, 160, 0, 21, 1148, 0) ∈ calL := by decide +kernel
theorem c_157 {O : pO} {j n0 : Nat} {Q : pQ} {pc : Nat} {L : pL} {S : List pv} {n : Nat} {M : pM} {b : Nat} {v1 v2 v3 v4 : pv} (hm : mO j = 1) (hd : decode (mB j) pc = .ok (.invokevirtual 160, 3)) : J O j n0 Q pc L (v4 :: v3 :: v2 :: v1 :: vr (b + 1) :: S) n M = (ob n b = 1 ∧ stk S ≤ 8 ∧ mo O 21 [vr (b + 1), v1, v2, v3, v4] n M (kV O j n0 Q (pc + 3) L S n)) := by
  have e : kR (mR 21) O j n0 Q (pc + 3) L S n = kV O j n0 Q (pc + 3) L S n := kR_V
  rw [← e]; exact J_callV (As := [v1, v2, v3, v4]) ce_157 (by rw [hm]) rfl rfl (by decide +kernel) rfl rfl hd
theorem ce_158 : (1, 164, 0, 59, 1152, 1) ∈ calL := by decide +kernel
theorem c_158 {O : pO} {j n0 : Nat} {Q : pQ} {pc : Nat} {L : pL} {S : List pv} {n : Nat} {M : pM} {b : Nat} {v1 v2 v3 : pv} (hm : mO j = 1) (hd : decode (mB j) pc = .ok (.invokevirtual 164, 3)) : J O j n0 Q pc L (v3 :: v2 :: v1 :: vr (b + 1) :: S) n M = (ob n b = 4 ∧ stk S ≤ 8 ∧ mo O 59 [vr (b + 1), v1, v2, v3] n M (kI O j n0 Q (pc + 3) L S n)) := by
  have e : kR (mR 59) O j n0 Q (pc + 3) L S n = kI O j n0 Q (pc + 3) L S n := kR_I (Or.inl rfl)
  rw [← e]; exact J_callV (As := [v1, v2, v3]) ce_158 (by rw [hm]) rfl rfl (by decide +kernel) rfl rfl hd
theorem ce_159 : (1, 167, 0, 22, 1153, 0) ∈ calL := by decide +kernel
theorem c_159 {O : pO} {j n0 : Nat} {Q : pQ} {pc : Nat} {L : pL} {S : List pv} {n : Nat} {M : pM} {b : Nat} {v1 v2 : pv} (hm : mO j = 1) (hd : decode (mB j) pc = .ok (.invokevirtual 167, 3)) : J O j n0 Q pc L (v2 :: v1 :: vr (b + 1) :: S) n M = (ob n b = 1 ∧ stk S ≤ 8 ∧ mo O 22 [vr (b + 1), v1, v2] n M (kL O j n0 Q (pc + 3) L S n)) := by
  have e : kR (mR 22) O j n0 Q (pc + 3) L S n = kL O j n0 Q (pc + 3) L S n := kR_L
  rw [← e]; exact J_callV (As := [v1, v2]) ce_159 (by rw [hm]) rfl rfl (by decide +kernel) rfl rfl hd
theorem ce_160 : (1, 171, 1, 298, 1158, 0) ∈ calL := by decide +kernel
theorem c_160 {O : pO} {j n0 : Nat} {Q : pQ} {pc : Nat} {L : pL} {S : List pv} {n : Nat} {M : pM} {a b : Int} (hm : mO j = 1) (hd : decode (mB j) pc = .ok (.invokestatic 171, 3)) : J O j n0 Q pc L (vi b :: vi a :: S) n M = (stk S ≤ 8 ∧ J O j n0 Q (pc + 3) L (vi (if a < b then b else a) :: S) n M) := J_max ce_160 (by rw [hm]) rfl (by decide +kernel) hd
theorem ce_161 : (1, 81, 0, 18, 1159, 0) ∈ calL := by decide +kernel
theorem c_161 {O : pO} {j n0 : Nat} {Q : pQ} {pc : Nat} {L : pL} {S : List pv} {n : Nat} {M : pM} {b : Nat} {v1 : pv} (hm : mO j = 1) (hd : decode (mB j) pc = .ok (.invokevirtual 81, 3)) : J O j n0 Q pc L (v1 :: vr (b + 1) :: S) n M = (ob n b = 1 ∧ stk S ≤ 8 ∧ mo O 18 [vr (b + 1), v1] n M (kI O j n0 Q (pc + 3) L S n)) := by
  have e : kR (mR 18) O j n0 Q (pc + 3) L S n = kI O j n0 Q (pc + 3) L S n := kR_I (Or.inr (Or.inl rfl))
  rw [← e]; exact J_callV (As := [v1]) ce_161 (by rw [hm]) rfl rfl (by decide +kernel) rfl rfl hd
theorem ce_162 : (1, 131, 0, 17, 1163, 0) ∈ calL := by decide +kernel
theorem c_162 {O : pO} {j n0 : Nat} {Q : pQ} {pc : Nat} {L : pL} {S : List pv} {n : Nat} {M : pM} {b : Nat} {v1 : pv} (hm : mO j = 1) (hd : decode (mB j) pc = .ok (.invokevirtual 131, 3)) : J O j n0 Q pc L (v1 :: vr (b + 1) :: S) n M = (ob n b = 1 ∧ stk S ≤ 8 ∧ mo O 17 [vr (b + 1), v1] n M (kL O j n0 Q (pc + 3) L S n)) := by
  have e : kR (mR 17) O j n0 Q (pc + 3) L S n = kL O j n0 Q (pc + 3) L S n := kR_L
  rw [← e]; exact J_callV (As := [v1]) ce_162 (by rw [hm]) rfl rfl (by decide +kernel) rfl rfl hd
theorem ce_163 : (1, 123, 0, 5, 1167, 1) ∈ calL := by decide +kernel
theorem c_163 {O : pO} {j n0 : Nat} {Q : pQ} {pc : Nat} {L : pL} {S : List pv} {n : Nat} {M : pM} {b : Nat} (hm : mO j = 1) (hd : decode (mB j) pc = .ok (.invokevirtual 123, 3)) : J O j n0 Q pc L (vr (b + 1) :: S) n M = (ob n b = 0 ∧ stk S ≤ 8 ∧ mo O 5 [vr (b + 1)] n M (kI O j n0 Q (pc + 3) L S n)) := by
  have e : kR (mR 5) O j n0 Q (pc + 3) L S n = kI O j n0 Q (pc + 3) L S n := kR_I (Or.inl rfl)
  rw [← e]; exact J_callV (As := []) ce_163 (by rw [hm]) rfl rfl (by decide +kernel) rfl rfl hd
theorem ce_164 : (0, 37, 0, 4, 1171, 0) ∈ calL := by decide +kernel
theorem c_164 {O : pO} {j n0 : Nat} {Q : pQ} {pc : Nat} {L : pL} {S : List pv} {n : Nat} {M : pM} {b : Nat} (hm : mO j = 0) (hd : decode (mB j) pc = .ok (.invokevirtual 37, 3)) : J O j n0 Q pc L (vr (b + 1) :: S) n M = (ob n b = 0 ∧ stk S ≤ 8 ∧ mo O 4 [vr (b + 1)] n M (kI O j n0 Q (pc + 3) L S n)) := by
  have e : kR (mR 4) O j n0 Q (pc + 3) L S n = kI O j n0 Q (pc + 3) L S n := kR_I (Or.inl rfl)
  rw [← e]; exact J_callV (As := []) ce_164 (by rw [hm]) rfl rfl (by decide +kernel) rfl rfl hd
theorem ce_165 : (1, 85, 0, 24, 1172, 0) ∈ calL := by decide +kernel
theorem c_165 {O : pO} {j n0 : Nat} {Q : pQ} {pc : Nat} {L : pL} {S : List pv} {n : Nat} {M : pM} {b : Nat} (hm : mO j = 1) (hd : decode (mB j) pc = .ok (.invokevirtual 85, 3)) : J O j n0 Q pc L (vr (b + 1) :: S) n M = (ob n b = 1 ∧ stk S ≤ 8 ∧ mo O 24 [vr (b + 1)] n M (kV O j n0 Q (pc + 3) L S n)) := by
  have e : kR (mR 24) O j n0 Q (pc + 3) L S n = kV O j n0 Q (pc + 3) L S n := kR_V
  rw [← e]; exact J_callV (As := []) ce_165 (by rw [hm]) rfl rfl (by decide +kernel) rfl rfl hd
theorem ce_166 : (1, 174, 0, 25, 1176, 0) ∈ calL := by decide +kernel
theorem c_166 {O : pO} {j n0 : Nat} {Q : pQ} {pc : Nat} {L : pL} {S : List pv} {n : Nat} {M : pM} {b : Nat} {v1 v2 v3 : pv} (hm : mO j = 1) (hd : decode (mB j) pc = .ok (.invokevirtual 174, 3)) : J O j n0 Q pc L (v3 :: v2 :: v1 :: vr (b + 1) :: S) n M = (ob n b = 1 ∧ stk S ≤ 8 ∧ mo O 25 [vr (b + 1), v1, v2, v3] n M (kL O j n0 Q (pc + 3) L S n)) := by
  have e : kR (mR 25) O j n0 Q (pc + 3) L S n = kL O j n0 Q (pc + 3) L S n := kR_L
  rw [← e]; exact J_callV (As := [v1, v2, v3]) ce_166 (by rw [hm]) rfl rfl (by decide +kernel) rfl rfl hd
theorem ce_167 : (1, 178, 0, 23, 1180, 0) ∈ calL := by decide +kernel
theorem c_167 {O : pO} {j n0 : Nat} {Q : pQ} {pc : Nat} {L : pL} {S : List pv} {n : Nat} {M : pM} {b : Nat} {v1 v2 : pv} (hm : mO j = 1) (hd : decode (mB j) pc = .ok (.invokevirtual 178, 3)) : J O j n0 Q pc L (v2 :: v1 :: vr (b + 1) :: S) n M = (ob n b = 1 ∧ stk S ≤ 8 ∧ mo O 23 [vr (b + 1), v1, v2] n M (kL O j n0 Q (pc + 3) L S n)) := by
  have e : kR (mR 23) O j n0 Q (pc + 3) L S n = kL O j n0 Q (pc + 3) L S n := kR_L
  rw [← e]; exact J_callV (As := [v1, v2]) ce_167 (by rw [hm]) rfl rfl (by decide +kernel) rfl rfl hd
theorem ce_168 : (11, 334, 0, 26, 1184, 1) ∈ calL := by decide +kernel
theorem c_168 {O : pO} {j n0 : Nat} {Q : pQ} {pc : Nat} {L : pL} {S : List pv} {n : Nat} {M : pM} {b : Nat} (hm : mO j = 11) (hd : decode (mB j) pc = .ok (.invokevirtual 334, 3)) : J O j n0 Q pc L (vr (b + 1) :: S) n M = (ob n b = 1 ∧ stk S ≤ 8 ∧ mo O 26 [vr (b + 1)] n M (kV O j n0 Q (pc + 3) L S n)) := by
  have e : kR (mR 26) O j n0 Q (pc + 3) L S n = kV O j n0 Q (pc + 3) L S n := kR_V
  rw [← e]; exact J_callV (As := []) ce_168 (by rw [hm]) rfl rfl (by decide +kernel) rfl rfl hd
theorem ce_169 : (1, 181, 0, 27, 1188, 0) ∈ calL := by decide +kernel
theorem c_169 {O : pO} {j n0 : Nat} {Q : pQ} {pc : Nat} {L : pL} {S : List pv} {n : Nat} {M : pM} {b : Nat} {v1 v2 v3 v4 : pv} (hm : mO j = 1) (hd : decode (mB j) pc = .ok (.invokevirtual 181, 3)) : J O j n0 Q pc L (v4 :: v3 :: v2 :: v1 :: vr (b + 1) :: S) n M = (ob n b = 1 ∧ stk S ≤ 8 ∧ mo O 27 [vr (b + 1), v1, v2, v3, v4] n M (kI O j n0 Q (pc + 3) L S n)) := by
  have e : kR (mR 27) O j n0 Q (pc + 3) L S n = kI O j n0 Q (pc + 3) L S n := kR_I (Or.inl rfl)
  rw [← e]; exact J_callV (As := [v1, v2, v3, v4]) ce_169 (by rw [hm]) rfl rfl (by decide +kernel) rfl rfl hd
theorem ce_170 : (1, 184, 0, 61, 1192, 1) ∈ calL := by decide +kernel
theorem c_170 {O : pO} {j n0 : Nat} {Q : pQ} {pc : Nat} {L : pL} {S : List pv} {n : Nat} {M : pM} {b : Nat} {v1 v2 v3 v4 v5 : pv} (hm : mO j = 1) (hd : decode (mB j) pc = .ok (.invokevirtual 184, 3)) : J O j n0 Q pc L (v5 :: v4 :: v3 :: v2 :: v1 :: vr (b + 1) :: S) n M = (ob n b = 4 ∧ stk S ≤ 8 ∧ mo O 61 [vr (b + 1), v1, v2, v3, v4, v5] n M (kI O j n0 Q (pc + 3) L S n)) := by
  have e : kR (mR 61) O j n0 Q (pc + 3) L S n = kI O j n0 Q (pc + 3) L S n := kR_I (Or.inl rfl)
  rw [← e]; exact J_callV (As := [v1, v2, v3, v4, v5]) ce_170 (by rw [hm]) rfl rfl (by decide +kernel) rfl rfl hd
theorem ce_171 : (1, 188, 0, 28, 1193, 0) ∈ calL := by decide +kernel
theorem c_171 {O : pO} {j n0 : Nat} {Q : pQ} {pc : Nat} {L : pL} {S : List pv} {n : Nat} {M : pM} {b : Nat} {v1 v2 : pv} (hm : mO j = 1) (hd : decode (mB j) pc = .ok (.invokevirtual 188, 3)) : J O j n0 Q pc L (v2 :: v1 :: vr (b + 1) :: S) n M = (ob n b = 1 ∧ stk S ≤ 8 ∧ mo O 28 [vr (b + 1), v1, v2] n M (kI O j n0 Q (pc + 3) L S n)) := by
  have e : kR (mR 28) O j n0 Q (pc + 3) L S n = kI O j n0 Q (pc + 3) L S n := kR_I (Or.inr (Or.inl rfl))
  rw [← e]; exact J_callV (As := [v1, v2]) ce_171 (by rw [hm]) rfl rfl (by decide +kernel) rfl rfl hd
theorem ce_172 : (13, 67, 0, 141, 1197, 0) ∈ calL := by decide +kernel
theorem c_172 {O : pO} {j n0 : Nat} {Q : pQ} {pc : Nat} {L : pL} {S : List pv} {n : Nat} {M : pM} {b : Nat} {v1 v2 v3 v4 v5 v6 : pv} (hm : mO j = 13) (hd : decode (mB j) pc = .ok (.invokevirtual 67, 3)) : J O j n0 Q pc L (v6 :: v5 :: v4 :: v3 :: v2 :: v1 :: vr (b + 1) :: S) n M = (ob n b = 11 ∧ stk S ≤ 8 ∧ mo O 141 [vr (b + 1), v1, v2, v3, v4, v5, v6] n M (kI O j n0 Q (pc + 3) L S n)) := by
  have e : kR (mR 141) O j n0 Q (pc + 3) L S n = kI O j n0 Q (pc + 3) L S n := kR_I (Or.inl rfl)
  rw [← e]; exact J_callV (As := [v1, v2, v3, v4, v5, v6]) ce_172 (by rw [hm]) rfl rfl (by decide +kernel) rfl rfl hd
theorem ce_173 : (13, 72, 0, 142, 1201, 0) ∈ calL := by decide +kernel
theorem c_173 {O : pO} {j n0 : Nat} {Q : pQ} {pc : Nat} {L : pL} {S : List pv} {n : Nat} {M : pM} {b : Nat} {v1 v2 v3 v4 : pv} (hm : mO j = 13) (hd : decode (mB j) pc = .ok (.invokevirtual 72, 3)) : J O j n0 Q pc L (v4 :: v3 :: v2 :: v1 :: vr (b + 1) :: S) n M = (ob n b = 11 ∧ stk S ≤ 8 ∧ mo O 142 [vr (b + 1), v1, v2, v3, v4] n M (kI O j n0 Q (pc + 3) L S n)) := by
  have e : kR (mR 142) O j n0 Q (pc + 3) L S n = kI O j n0 Q (pc + 3) L S n := kR_I (Or.inl rfl)
  rw [← e]; exact J_callV (As := [v1, v2, v3, v4]) ce_173 (by rw [hm]) rfl rfl (by decide +kernel) rfl rfl hd
theorem ce_174 : (11, 188, 0, 12, 1205, 1) ∈ calL := by decide +kernel
theorem c_174 {O : pO} {j n0 : Nat} {Q : pQ} {pc : Nat} {L : pL} {S : List pv} {n : Nat} {M : pM} {b : Nat} {v1 v2 v3 v4 v5 : pv} (hm : mO j = 11) (hd : decode (mB j) pc = .ok (.invokevirtual 188, 3)) : J O j n0 Q pc L (v5 :: v4 :: v3 :: v2 :: v1 :: vr (b + 1) :: S) n M = (ob n b = 1 ∧ stk S ≤ 8 ∧ mo O 12 [vr (b + 1), v1, v2, v3, v4, v5] n M (kI O j n0 Q (pc + 3) L S n)) := by
  have e : kR (mR 12) O j n0 Q (pc + 3) L S n = kI O j n0 Q (pc + 3) L S n := kR_I (Or.inl rfl)
  rw [← e]; exact J_callV (As := [v1, v2, v3, v4, v5]) ce_174 (by rw [hm]) rfl rfl (by decide +kernel) rfl rfl hd
theorem ce_175 : (1, 88, 0, 16, 1209, 0) ∈ calL := by decide +kernel
theorem c_175 {O : pO} {j n0 : Nat} {Q : pQ} {pc : Nat} {L : pL} {S : List pv} {n : Nat} {M : pM} {b : Nat} {v1 : pv} (hm : mO j = 1) (hd : decode (mB j) pc = .ok (.invokevirtual 88, 3)) : J O j n0 Q pc L (v1 :: vr (b + 1) :: S) n M = (ob n b = 1 ∧ stk S ≤ 8 ∧ mo O 16 [vr (b + 1), v1] n M (kL O j n0 Q (pc + 3) L S n)) := by
  have e : kR (mR 16) O j n0 Q (pc + 3) L S n = kL O j n0 Q (pc + 3) L S n := kR_L
  rw [← e]; exact J_callV (As := [v1]) ce_175 (by rw [hm]) rfl rfl (by decide +kernel) rfl rfl hd
theorem ce_176 : (1, 98, 1, 296, 1213, 0) ∈ calL := by decide +kernel
theorem c_176 {O : pO} {j n0 : Nat} {Q : pQ} {pc : Nat} {L : pL} {S : List pv} {n : Nat} {M : pM} {v1 : pv} (hm : mO j = 1) (hd : decode (mB j) pc = .ok (.invokestatic 98, 3)) : J O j n0 Q pc L (v1 :: S) n M = (stk S ≤ 8 ∧ mo O 296 [v1] n M (kI O j n0 Q (pc + 3) L S n)) := by
  have e : kR (mR 296) O j n0 Q (pc + 3) L S n = kI O j n0 Q (pc + 3) L S n := kR_I (Or.inl rfl)
  rw [← e]; exact J_callS (As := [v1]) ce_176 (by rw [hm]) rfl rfl (by decide +kernel) rfl rfl hd
theorem ce_177 : (13, 77, 0, 143, 1219, 0) ∈ calL := by decide +kernel
theorem c_177 {O : pO} {j n0 : Nat} {Q : pQ} {pc : Nat} {L : pL} {S : List pv} {n : Nat} {M : pM} {b : Nat} {v1 v2 v3 : pv} (hm : mO j = 13) (hd : decode (mB j) pc = .ok (.invokevirtual 77, 3)) : J O j n0 Q pc L (v3 :: v2 :: v1 :: vr (b + 1) :: S) n M = (ob n b = 11 ∧ stk S ≤ 8 ∧ mo O 143 [vr (b + 1), v1, v2, v3] n M (kI O j n0 Q (pc + 3) L S n)) := by
  have e : kR (mR 143) O j n0 Q (pc + 3) L S n = kI O j n0 Q (pc + 3) L S n := kR_I (Or.inr (Or.inl rfl))
  rw [← e]; exact J_callV (As := [v1, v2, v3]) ce_177 (by rw [hm]) rfl rfl (by decide +kernel) rfl rfl hd
theorem ce_178 : (11, 192, 0, 30, 1223, 1) ∈ calL := by decide +kernel
theorem c_178 {O : pO} {j n0 : Nat} {Q : pQ} {pc : Nat} {L : pL} {S : List pv} {n : Nat} {M : pM} {b : Nat} {v1 v2 v3 : pv} (hm : mO j = 11) (hd : decode (mB j) pc = .ok (.invokevirtual 192, 3)) : J O j n0 Q pc L (v3 :: v2 :: v1 :: vr (b + 1) :: S) n M = (ob n b = 2 ∧ stk S ≤ 8 ∧ mo O 30 [vr (b + 1), v1, v2, v3] n M (kI O j n0 Q (pc + 3) L S n)) := by
  have e : kR (mR 30) O j n0 Q (pc + 3) L S n = kI O j n0 Q (pc + 3) L S n := kR_I (Or.inr (Or.inl rfl))
  rw [← e]; exact J_callV (As := [v1, v2, v3]) ce_178 (by rw [hm]) rfl rfl (by decide +kernel) rfl rfl hd
theorem ce_179 : (2, 34, 1, 31, 1227, 0) ∈ calL := by decide +kernel
theorem c_179 {O : pO} {j n0 : Nat} {Q : pQ} {pc : Nat} {L : pL} {S : List pv} {n : Nat} {M : pM} {v1 : pv} (hm : mO j = 2) (hd : decode (mB j) pc = .ok (.invokestatic 34, 3)) : J O j n0 Q pc L (v1 :: S) n M = (stk S ≤ 8 ∧ mo O 31 [v1] n M (kI O j n0 Q (pc + 3) L S n)) := by
  have e : kR (mR 31) O j n0 Q (pc + 3) L S n = kI O j n0 Q (pc + 3) L S n := kR_I (Or.inr (Or.inl rfl))
  rw [← e]; exact J_callS (As := [v1]) ce_179 (by rw [hm]) rfl rfl (by decide +kernel) rfl rfl hd
theorem ce_180 : (2, 41, 1, 322, 1230, 0) ∈ calL := by decide +kernel
theorem c_180 {O : pO} {j n0 : Nat} {Q : pQ} {pc : Nat} {L : pL} {S : List pv} {n : Nat} {M : pM} {v1 v2 : pv} (hm : mO j = 2) (hd : decode (mB j) pc = .ok (.invokestatic 41, 3)) : J O j n0 Q pc L (v2 :: v1 :: S) n M = (stk S ≤ 8 ∧ mo O 322 [v1, v2] n M (kV O j n0 Q (pc + 3) L S n)) := by
  have e : kR (mR 322) O j n0 Q (pc + 3) L S n = kV O j n0 Q (pc + 3) L S n := kR_V
  rw [← e]; exact J_callS (As := [v1, v2]) ce_180 (by rw [hm]) rfl rfl (by decide +kernel) rfl rfl hd
theorem ce_181 : (13, 82, 0, 144, 1231, 0) ∈ calL := by decide +kernel
theorem c_181 {O : pO} {j n0 : Nat} {Q : pQ} {pc : Nat} {L : pL} {S : List pv} {n : Nat} {M : pM} {b : Nat} {v1 v2 : pv} (hm : mO j = 13) (hd : decode (mB j) pc = .ok (.invokevirtual 82, 3)) : J O j n0 Q pc L (v2 :: v1 :: vr (b + 1) :: S) n M = (ob n b = 11 ∧ stk S ≤ 8 ∧ mo O 144 [vr (b + 1), v1, v2] n M (kI O j n0 Q (pc + 3) L S n)) := by
  have e : kR (mR 144) O j n0 Q (pc + 3) L S n = kI O j n0 Q (pc + 3) L S n := kR_I (Or.inl rfl)
  rw [← e]; exact J_callV (As := [v1, v2]) ce_181 (by rw [hm]) rfl rfl (by decide +kernel) rfl rfl hd
theorem ce_182 : (11, 195, 0, 32, 1235, 1) ∈ calL := by decide +kernel
theorem c_182 {O : pO} {j n0 : Nat} {Q : pQ} {pc : Nat} {L : pL} {S : List pv} {n : Nat} {M : pM} {b : Nat} {v1 v2 : pv} (hm : mO j = 11) (hd : decode (mB j) pc = .ok (.invokevirtual 195, 3)) : J O j n0 Q pc L (v2 :: v1 :: vr (b + 1) :: S) n M = (ob n b = 2 ∧ stk S ≤ 8 ∧ mo O 32 [vr (b + 1), v1, v2] n M (kI O j n0 Q (pc + 3) L S n)) := by
  have e : kR (mR 32) O j n0 Q (pc + 3) L S n = kI O j n0 Q (pc + 3) L S n := kR_I (Or.inl rfl)
  rw [← e]; exact J_callV (As := [v1, v2]) ce_182 (by rw [hm]) rfl rfl (by decide +kernel) rfl rfl hd
theorem ce_183 : (2, 50, 0, 33, 1239, 0) ∈ calL := by decide +kernel
theorem c_183 {O : pO} {j n0 : Nat} {Q : pQ} {pc : Nat} {L : pL} {S : List pv} {n : Nat} {M : pM} {b : Nat} (hm : mO j = 2) (hd : decode (mB j) pc = .ok (.invokevirtual 50, 3)) : J O j n0 Q pc L (vr (b + 1) :: S) n M = (ob n b = 2 ∧ stk S ≤ 8 ∧ mo O 33 [vr (b + 1)] n M (kI O j n0 Q (pc + 3) L S n)) := by
  have e : kR (mR 33) O j n0 Q (pc + 3) L S n = kI O j n0 Q (pc + 3) L S n := kR_I (Or.inl rfl)
  rw [← e]; exact J_callV (As := []) ce_183 (by rw [hm]) rfl rfl (by decide +kernel) rfl rfl hd
theorem ce_184 : (2, 54, 1, 298, 1243, 0) ∈ calL := by decide +kernel
theorem c_184 {O : pO} {j n0 : Nat} {Q : pQ} {pc : Nat} {L : pL} {S : List pv} {n : Nat} {M : pM} {a b : Int} (hm : mO j = 2) (hd : decode (mB j) pc = .ok (.invokestatic 54, 3)) : J O j n0 Q pc L (vi b :: vi a :: S) n M = (stk S ≤ 8 ∧ J O j n0 Q (pc + 3) L (vi (if a < b then b else a) :: S) n M) := J_max ce_184 (by rw [hm]) rfl (by decide +kernel) hd
theorem ce_185 : (13, 87, 0, 145, 1244, 0) ∈ calL := by decide +kernel
theorem c_185 {O : pO} {j n0 : Nat} {Q : pQ} {pc : Nat} {L : pL} {S : List pv} {n : Nat} {M : pM} {b : Nat} {v1 v2 : pv} (hm : mO j = 13) (hd : decode (mB j) pc = .ok (.invokevirtual 87, 3)) : J O j n0 Q pc L (v2 :: v1 :: vr (b + 1) :: S) n M = (ob n b = 11 ∧ stk S ≤ 8 ∧ mo O 145 [vr (b + 1), v1, v2] n M (kI O j n0 Q (pc + 3) L S n)) := by
  have e : kR (mR 145) O j n0 Q (pc + 3) L S n = kI O j n0 Q (pc + 3) L S n := kR_I (Or.inl rfl)
  rw [← e]; exact J_callV (As := [v1, v2]) ce_185 (by rw [hm]) rfl rfl (by decide +kernel) rfl rfl hd
theorem ce_186 : (11, 199, 0, 34, 1248, 1) ∈ calL := by decide +kernel
theorem c_186 {O : pO} {j n0 : Nat} {Q : pQ} {pc : Nat} {L : pL} {S : List pv} {n : Nat} {M : pM} {b : Nat} {v1 v2 : pv} (hm : mO j = 11) (hd : decode (mB j) pc = .ok (.invokevirtual 199, 3)) : J O j n0 Q pc L (v2 :: v1 :: vr (b + 1) :: S) n M = (ob n b = 2 ∧ stk S ≤ 8 ∧ mo O 34 [vr (b + 1), v1, v2] n M (kI O j n0 Q (pc + 3) L S n)) := by
  have e : kR (mR 34) O j n0 Q (pc + 3) L S n = kI O j n0 Q (pc + 3) L S n := kR_I (Or.inl rfl)
  rw [← e]; exact J_callV (As := [v1, v2]) ce_186 (by rw [hm]) rfl rfl (by decide +kernel) rfl rfl hd
theorem ce_187 : (13, 91, 0, 146, 1252, 0) ∈ calL := by decide +kernel
theorem c_187 {O : pO} {j n0 : Nat} {Q : pQ} {pc : Nat} {L : pL} {S : List pv} {n : Nat} {M : pM} {b : Nat} {v1 : pv} (hm : mO j = 13) (hd : decode (mB j) pc = .ok (.invokevirtual 91, 3)) : J O j n0 Q pc L (v1 :: vr (b + 1) :: S) n M = (ob n b = 11 ∧ stk S ≤ 8 ∧ mo O 146 [vr (b + 1), v1] n M (kI O j n0 Q (pc + 3) L S n)) := by
  have e : kR (mR 146) O j n0 Q (pc + 3) L S n = kI O j n0 Q (pc + 3) L S n := kR_I (Or.inl rfl)
  rw [← e]; exact J_callV (As := [v1]) ce_187 (by rw [hm]) rfl rfl (by decide +kernel) rfl rfl hd
theorem ce_188 : (11, 202, 0, 116, 1256, 1) ∈ calL := by decide +kernel
theorem c_188 {O : pO} {j n0 : Nat} {Q : pQ} {pc : Nat} {L : pL} {S : List pv} {n : Nat} {M : pM} {b : Nat} {v1 : pv} (hm : mO j = 11) (hd : decode (mB j) pc = .ok (.invokevirtual 202, 3)) : J O j n0 Q pc L (v1 :: vr (b + 1) :: S) n M = (ob n b = 9 ∧ stk S ≤ 8 ∧ mo O 116 [vr (b + 1), v1] n M (kI O j n0 Q (pc + 3) L S n)) := by
  have e : kR (mR 116) O j n0 Q (pc + 3) L S n = kI O j n0 Q (pc + 3) L S n := kR_I (Or.inl rfl)
  rw [← e]; exact J_callV (As := [v1]) ce_188 (by rw [hm]) rfl rfl (by decide +kernel) rfl rfl hd
theorem ce_189 : (13, 95, 0, 147, 1260, 0) ∈ calL := by decide +kernel
theorem c_189 {O : pO} {j n0 : Nat} {Q : pQ} {pc : Nat} {L : pL} {S : List pv} {n : Nat} {M : pM} {b : Nat} {v1 v2 v3 v4 : pv} (hm : mO j = 13) (hd : decode (mB j) pc = .ok (.invokevirtual 95, 3)) : J O j n0 Q pc L (v4 :: v3 :: v2 :: v1 :: vr (b + 1) :: S) n M = (ob n b = 11 ∧ stk S ≤ 8 ∧ mo O 147 [vr (b + 1), v1, v2, v3, v4] n M (kI O j n0 Q (pc + 3) L S n)) := by
  have e : kR (mR 147) O j n0 Q (pc + 3) L S n = kI O j n0 Q (pc + 3) L S n := kR_I (Or.inl rfl)
  rw [← e]; exact J_callV (As := [v1, v2, v3, v4]) ce_189 (by rw [hm]) rfl rfl (by decide +kernel) rfl rfl hd
theorem ce_190 : (11, 205, 0, 115, 1264, 1) ∈ calL := by decide +kernel
theorem c_190 {O : pO} {j n0 : Nat} {Q : pQ} {pc : Nat} {L : pL} {S : List pv} {n : Nat} {M : pM} {b : Nat} {v1 : pv} (hm : mO j = 11) (hd : decode (mB j) pc = .ok (.invokevirtual 205, 3)) : J O j n0 Q pc L (v1 :: vr (b + 1) :: S) n M = (ob n b = 9 ∧ stk S ≤ 8 ∧ mo O 115 [vr (b + 1), v1] n M (kI O j n0 Q (pc + 3) L S n)) := by
  have e : kR (mR 115) O j n0 Q (pc + 3) L S n = kI O j n0 Q (pc + 3) L S n := kR_I (Or.inr (Or.inl rfl))
  rw [← e]; exact J_callV (As := [v1]) ce_190 (by rw [hm]) rfl rfl (by decide +kernel) rfl rfl hd
theorem ce_191 : (11, 208, 0, 117, 1268, 1) ∈ calL := by decide +kernel
theorem c_191 {O : pO} {j n0 : Nat} {Q : pQ} {pc : Nat} {L : pL} {S : List pv} {n : Nat} {M : pM} {b : Nat} {v1 v2 v3 v4 : pv} (hm : mO j = 11) (hd : decode (mB j) pc = .ok (.invokevirtual 208, 3)) : J O j n0 Q pc L (v4 :: v3 :: v2 :: v1 :: vr (b + 1) :: S) n M = (ob n b = 9 ∧ stk S ≤ 8 ∧ mo O 117 [vr (b + 1), v1, v2, v3, v4] n M (kI O j n0 Q (pc + 3) L S n)) := by
  have e : kR (mR 117) O j n0 Q (pc + 3) L S n = kI O j n0 Q (pc + 3) L S n := kR_I (Or.inl rfl)
  rw [← e]; exact J_callV (As := [v1, v2, v3, v4]) ce_191 (by rw [hm]) rfl rfl (by decide +kernel) rfl rfl hd
theorem ce_192 : (13, 99, 0, 148, 1272, 0) ∈ calL := by decide +kernel
theorem c_192 {O : pO} {j n0 : Nat} {Q : pQ} {pc : Nat} {L : pL} {S : List pv} {n : Nat} {M : pM} {b : Nat} {v1 : pv} (hm : mO j = 13) (hd : decode (mB j) pc = .ok (.invokevirtual 99, 3)) : J O j n0 Q pc L (v1 :: vr (b + 1) :: S) n M = (ob n b = 11 ∧ stk S ≤ 8 ∧ mo O 148 [vr (b + 1), v1] n M (kI O j n0 Q (pc + 3) L S n)) := by
  have e : kR (mR 148) O j n0 Q (pc + 3) L S n = kI O j n0 Q (pc + 3) L S n := kR_I (Or.inr (Or.inl rfl))
  rw [← e]; exact J_callV (As := [v1]) ce_192 (by rw [hm]) rfl rfl (by decide +kernel) rfl rfl hd
theorem ce_193 : (11, 212, 0, 118, 1276, 1) ∈ calL := by decide +kernel
theorem c_193 {O : pO} {j n0 : Nat} {Q : pQ} {pc : Nat} {L : pL} {S : List pv} {n : Nat} {M : pM} {b : Nat} {v1 : pv} (hm : mO j = 11) (hd : decode (mB j) pc = .ok (.invokevirtual 212, 3)) : J O j n0 Q pc L (v1 :: vr (b + 1) :: S) n M = (ob n b = 9 ∧ stk S ≤ 8 ∧ mo O 118 [vr (b + 1), v1] n M (kI O j n0 Q (pc + 3) L S n)) := by
  have e : kR (mR 118) O j n0 Q (pc + 3) L S n = kI O j n0 Q (pc + 3) L S n := kR_I (Or.inr (Or.inl rfl))
  rw [← e]; exact J_callV (As := [v1]) ce_193 (by rw [hm]) rfl rfl (by decide +kernel) rfl rfl hd
theorem ce_194 : (13, 104, 0, 149, 1280, 0) ∈ calL := by decide +kernel
theorem c_194 {O : pO} {j n0 : Nat} {Q : pQ} {pc : Nat} {L : pL} {S : List pv} {n : Nat} {M : pM} {b : Nat} {v1 : pv} (hm : mO j = 13) (hd : decode (mB j) pc = .ok (.invokevirtual 104, 3)) : J O j n0 Q pc L (v1 :: vr (b + 1) :: S) n M = (ob n b = 11 ∧ stk S ≤ 8 ∧ mo O 149 [vr (b + 1), v1] n M (kI O j n0 Q (pc + 3) L S n)) := by
  have e : kR (mR 149) O j n0 Q (pc + 3) L S n = kI O j n0 Q (pc + 3) L S n := kR_I (Or.inl rfl)
  rw [← e]; exact J_callV (As := [v1]) ce_194 (by rw [hm]) rfl rfl (by decide +kernel) rfl rfl hd
theorem ce_195 : (11, 215, 0, 119, 1284, 1) ∈ calL := by decide +kernel
theorem c_195 {O : pO} {j n0 : Nat} {Q : pQ} {pc : Nat} {L : pL} {S : List pv} {n : Nat} {M : pM} {b : Nat} {v1 : pv} (hm : mO j = 11) (hd : decode (mB j) pc = .ok (.invokevirtual 215, 3)) : J O j n0 Q pc L (v1 :: vr (b + 1) :: S) n M = (ob n b = 9 ∧ stk S ≤ 8 ∧ mo O 119 [vr (b + 1), v1] n M (kI O j n0 Q (pc + 3) L S n)) := by
  have e : kR (mR 119) O j n0 Q (pc + 3) L S n = kI O j n0 Q (pc + 3) L S n := kR_I (Or.inl rfl)
  rw [← e]; exact J_callV (As := [v1]) ce_195 (by rw [hm]) rfl rfl (by decide +kernel) rfl rfl hd
theorem ce_196 : (13, 108, 0, 150, 1289, 0) ∈ calL := by decide +kernel
theorem c_196 {O : pO} {j n0 : Nat} {Q : pQ} {pc : Nat} {L : pL} {S : List pv} {n : Nat} {M : pM} {b : Nat} {v1 : pv} (hm : mO j = 13) (hd : decode (mB j) pc = .ok (.invokevirtual 108, 3)) : J O j n0 Q pc L (v1 :: vr (b + 1) :: S) n M = (ob n b = 11 ∧ stk S ≤ 8 ∧ mo O 150 [vr (b + 1), v1] n M (kI O j n0 Q (pc + 3) L S n)) := by
  have e : kR (mR 150) O j n0 Q (pc + 3) L S n = kI O j n0 Q (pc + 3) L S n := kR_I (Or.inr (Or.inl rfl))
  rw [← e]; exact J_callV (As := [v1]) ce_196 (by rw [hm]) rfl rfl (by decide +kernel) rfl rfl hd
theorem ce_197 : (13, 112, 0, 151, 1293, 0) ∈ calL := by decide +kernel
theorem c_197 {O : pO} {j n0 : Nat} {Q : pQ} {pc : Nat} {L : pL} {S : List pv} {n : Nat} {M : pM} {b : Nat} {v1 v2 v3 : pv} (hm : mO j = 13) (hd : decode (mB j) pc = .ok (.invokevirtual 112, 3)) : J O j n0 Q pc L (v3 :: v2 :: v1 :: vr (b + 1) :: S) n M = (ob n b = 11 ∧ stk S ≤ 8 ∧ mo O 151 [vr (b + 1), v1, v2, v3] n M (kI O j n0 Q (pc + 3) L S n)) := by
  have e : kR (mR 151) O j n0 Q (pc + 3) L S n = kI O j n0 Q (pc + 3) L S n := kR_I (Or.inl rfl)
  rw [← e]; exact J_callV (As := [v1, v2, v3]) ce_197 (by rw [hm]) rfl rfl (by decide +kernel) rfl rfl hd
theorem ce_198 : (11, 221, 0, 165, 1297, 0) ∈ calL := by decide +kernel
theorem c_198 {O : pO} {j n0 : Nat} {Q : pQ} {pc : Nat} {L : pL} {S : List pv} {n : Nat} {M : pM} {b : Nat} {v1 : pv} (hm : mO j = 11) (hd : decode (mB j) pc = .ok (.invokevirtual 221, 3)) : J O j n0 Q pc L (v1 :: vr (b + 1) :: S) n M = (ob n b = 11 ∧ stk S ≤ 8 ∧ mo O 165 [vr (b + 1), v1] n M (kI O j n0 Q (pc + 3) L S n)) := by
  have e : kR (mR 165) O j n0 Q (pc + 3) L S n = kI O j n0 Q (pc + 3) L S n := kR_I (Or.inr (Or.inl rfl))
  rw [← e]; exact J_callV (As := [v1]) ce_198 (by rw [hm]) rfl rfl (by decide +kernel) rfl rfl hd
theorem ce_199 : (11, 224, 0, 99, 1301, 1) ∈ calL := by decide +kernel
theorem c_199 {O : pO} {j n0 : Nat} {Q : pQ} {pc : Nat} {L : pL} {S : List pv} {n : Nat} {M : pM} {b : Nat} {v1 v2 v3 : pv} (hm : mO j = 11) (hd : decode (mB j) pc = .ok (.invokevirtual 224, 3)) : J O j n0 Q pc L (v3 :: v2 :: v1 :: vr (b + 1) :: S) n M = (ob n b = 8 ∧ stk S ≤ 8 ∧ mo O 99 [vr (b + 1), v1, v2, v3] n M (kV O j n0 Q (pc + 3) L S n)) := by
  have e : kR (mR 99) O j n0 Q (pc + 3) L S n = kV O j n0 Q (pc + 3) L S n := kR_V
  rw [← e]; exact J_callV (As := [v1, v2, v3]) ce_199 (by rw [hm]) rfl rfl (by decide +kernel) rfl rfl hd
theorem ce_200 : (8, 24, 1, 322, 1305, 0) ∈ calL := by decide +kernel
theorem c_200 {O : pO} {j n0 : Nat} {Q : pQ} {pc : Nat} {L : pL} {S : List pv} {n : Nat} {M : pM} {v1 v2 : pv} (hm : mO j = 8) (hd : decode (mB j) pc = .ok (.invokestatic 24, 3)) : J O j n0 Q pc L (v2 :: v1 :: S) n M = (stk S ≤ 8 ∧ mo O 322 [v1, v2] n M (kV O j n0 Q (pc + 3) L S n)) := by
  have e : kR (mR 322) O j n0 Q (pc + 3) L S n = kV O j n0 Q (pc + 3) L S n := kR_V
  rw [← e]; exact J_callS (As := [v1, v2]) ce_200 (by rw [hm]) rfl rfl (by decide +kernel) rfl rfl hd
theorem ce_201 : (8, 39, 0, 120, 1306, 1) ∈ calL := by decide +kernel
theorem c_201 {O : pO} {j n0 : Nat} {Q : pQ} {pc : Nat} {L : pL} {S : List pv} {n : Nat} {M : pM} {b : Nat} {v1 v2 : pv} (hm : mO j = 8) (hd : decode (mB j) pc = .ok (.invokevirtual 39, 3)) : J O j n0 Q pc L (v2 :: v1 :: vr (b + 1) :: S) n M = (ob n b = 9 ∧ stk S ≤ 8 ∧ mo O 120 [vr (b + 1), v1, v2] n M (kI O j n0 Q (pc + 3) L S n)) := by
  have e : kR (mR 120) O j n0 Q (pc + 3) L S n = kI O j n0 Q (pc + 3) L S n := kR_I (Or.inr (Or.inl rfl))
  rw [← e]; exact J_callV (As := [v1, v2]) ce_201 (by rw [hm]) rfl rfl (by decide +kernel) rfl rfl hd
theorem ce_202 : (11, 228, 0, 102, 1310, 1) ∈ calL := by decide +kernel
theorem c_202 {O : pO} {j n0 : Nat} {Q : pQ} {pc : Nat} {L : pL} {S : List pv} {n : Nat} {M : pM} {b : Nat} {v1 : pv} (hm : mO j = 11) (hd : decode (mB j) pc = .ok (.invokevirtual 228, 3)) : J O j n0 Q pc L (v1 :: vr (b + 1) :: S) n M = (ob n b = 8 ∧ stk S ≤ 8 ∧ mo O 102 [vr (b + 1), v1] n M (kI O j n0 Q (pc + 3) L S n)) := by
  have e : kR (mR 102) O j n0 Q (pc + 3) L S n = kI O j n0 Q (pc + 3) L S n := kR_I (Or.inl rfl)
  rw [← e]; exact J_callV (As := [v1]) ce_202 (by rw [hm]) rfl rfl (by decide +kernel) rfl rfl hd
theorem ce_203 : (8, 68, 0, 100, 1314, 0) ∈ calL := by decide +kernel
theorem c_203 {O : pO} {j n0 : Nat} {Q : pQ} {pc : Nat} {L : pL} {S : List pv} {n : Nat} {M : pM} {b : Nat} {v1 v2 v3 : pv} (hm : mO j = 8) (hd : decode (mB j) pc = .ok (.invokevirtual 68, 3)) : J O j n0 Q pc L (v3 :: v2 :: v1 :: vr (b + 1) :: S) n M = (ob n b = 8 ∧ stk S ≤ 8 ∧ mo O 100 [vr (b + 1), v1, v2, v3] n M (kI O j n0 Q (pc + 3) L S n)) := by
  have e : kR (mR 100) O j n0 Q (pc + 3) L S n = kI O j n0 Q (pc + 3) L S n := kR_I (Or.inl rfl)
  rw [← e]; exact J_callV (As := [v1, v2, v3]) ce_203 (by rw [hm]) rfl rfl (by decide +kernel) rfl rfl hd
theorem ce_204 : (8, 55, 1, 172, 1318, 1) ∈ calL := by decide +kernel
theorem c_204 {O : pO} {j n0 : Nat} {Q : pQ} {pc : Nat} {L : pL} {S : List pv} {n : Nat} {M : pM} {v1 v2 : pv} (hm : mO j = 8) (hd : decode (mB j) pc = .ok (.invokestatic 55, 3)) : J O j n0 Q pc L (v2 :: v1 :: S) n M = (stk S ≤ 8 ∧ mo O 172 [v1, v2] n M (kI O j n0 Q (pc + 3) L S n)) := by
  have e : kR (mR 172) O j n0 Q (pc + 3) L S n = kI O j n0 Q (pc + 3) L S n := kR_I (Or.inl rfl)
  rw [← e]; exact J_callS (As := [v1, v2]) ce_204 (by rw [hm]) rfl rfl (by decide +kernel) rfl rfl hd
theorem ce_205 : (11, 347, 1, 297, 1321, 0) ∈ calL := by decide +kernel
theorem c_205 {O : pO} {j n0 : Nat} {Q : pQ} {pc : Nat} {L : pL} {S : List pv} {n : Nat} {M : pM} {a : Int} (hm : mO j = 11) (hd : decode (mB j) pc = .ok (.invokestatic 347, 3)) : J O j n0 Q pc L (vi a :: S) n M = (stk S ≤ 8 ∧ J O j n0 Q (pc + 3) L (vi (if 0 ≤ a then a else w32 (0 - a)) :: S) n M) := J_abs ce_205 (by rw [hm]) rfl (by decide +kernel) hd
theorem ce_206 : (11, 352, 1, 298, 1324, 0) ∈ calL := by decide +kernel
theorem c_206 {O : pO} {j n0 : Nat} {Q : pQ} {pc : Nat} {L : pL} {S : List pv} {n : Nat} {M : pM} {a b : Int} (hm : mO j = 11) (hd : decode (mB j) pc = .ok (.invokestatic 352, 3)) : J O j n0 Q pc L (vi b :: vi a :: S) n M = (stk S ≤ 8 ∧ J O j n0 Q (pc + 3) L (vi (if a < b then b else a) :: S) n M) := J_max ce_206 (by rw [hm]) rfl (by decide +kernel) hd
theorem ce_207 : (8, 72, 0, 103, 1325, 0) ∈ calL := by decide +kernel
theorem c_207 {O : pO} {j n0 : Nat} {Q : pQ} {pc : Nat} {L : pL} {S : List pv} {n : Nat} {M : pM} {b : Nat} {v1 v2 v3 : pv} (hm : mO j = 8) (hd : decode (mB j) pc = .ok (.invokevirtual 72, 3)) : J O j n0 Q pc L (v3 :: v2 :: v1 :: vr (b + 1) :: S) n M = (ob n b = 8 ∧ stk S ≤ 8 ∧ mo O 103 [vr (b + 1), v1, v2, v3] n M (kI O j n0 Q (pc + 3) L S n)) := by
  have e : kR (mR 103) O j n0 Q (pc + 3) L S n = kI O j n0 Q (pc + 3) L S n := kR_I (Or.inr (Or.inl rfl))
  rw [← e]; exact J_callV (As := [v1, v2, v3]) ce_207 (by rw [hm]) rfl rfl (by decide +kernel) rfl rfl hd
theorem ce_208 : (8, 76, 1, 298, 1329, 0) ∈ calL := by decide +kernel
theorem c_208 {O : pO} {j n0 : Nat} {Q : pQ} {pc : Nat} {L : pL} {S : List pv} {n : Nat} {M : pM} {a b : Int} (hm : mO j = 8) (hd : decode (mB j) pc = .ok (.invokestatic 76, 3)) : J O j n0 Q pc L (vi b :: vi a :: S) n M = (stk S ≤ 8 ∧ J O j n0 Q (pc + 3) L (vi (if a < b then b else a) :: S) n M) := J_max ce_208 (by rw [hm]) rfl (by decide +kernel) hd
theorem ce_209 : (11, 232, 0, 101, 1330, 1) ∈ calL := by decide +kernel
theorem c_209 {O : pO} {j n0 : Nat} {Q : pQ} {pc : Nat} {L : pL} {S : List pv} {n : Nat} {M : pM} {b : Nat} {v1 : pv} (hm : mO j = 11) (hd : decode (mB j) pc = .ok (.invokevirtual 232, 3)) : J O j n0 Q pc L (v1 :: vr (b + 1) :: S) n M = (ob n b = 8 ∧ stk S ≤ 8 ∧ mo O 101 [vr (b + 1), v1] n M (kV O j n0 Q (pc + 3) L S n)) := by
  have e : kR (mR 101) O j n0 Q (pc + 3) L S n = kV O j n0 Q (pc + 3) L S n := kR_V
  rw [← e]; exact J_callV (As := [v1]) ce_209 (by rw [hm]) rfl rfl (by decide +kernel) rfl rfl hd
theorem ce_210 : (13, 117, 0, 152, 1334, 0) ∈ calL := by decide +kernel
theorem c_210 {O : pO} {j n0 : Nat} {Q : pQ} {pc : Nat} {L : pL} {S : List pv} {n : Nat} {M : pM} {b : Nat} {v1 v2 v3 : pv} (hm : mO j = 13) (hd : decode (mB j) pc = .ok (.invokevirtual 117, 3)) : J O j n0 Q pc L (v3 :: v2 :: v1 :: vr (b + 1) :: S) n M = (ob n b = 11 ∧ stk S ≤ 8 ∧ mo O 152 [vr (b + 1), v1, v2, v3] n M (kI O j n0 Q (pc + 3) L S n)) := by
  have e : kR (mR 152) O j n0 Q (pc + 3) L S n = kI O j n0 Q (pc + 3) L S n := kR_I (Or.inl rfl)
  rw [← e]; exact J_callV (As := [v1, v2, v3]) ce_210 (by rw [hm]) rfl rfl (by decide +kernel) rfl rfl hd
theorem ce_211 : (11, 239, 0, 109, 1338, 1) ∈ calL := by decide +kernel
theorem c_211 {O : pO} {j n0 : Nat} {Q : pQ} {pc : Nat} {L : pL} {S : List pv} {n : Nat} {M : pM} {b : Nat} {v1 : pv} (hm : mO j = 11) (hd : decode (mB j) pc = .ok (.invokevirtual 239, 3)) : J O j n0 Q pc L (v1 :: vr (b + 1) :: S) n M = (ob n b = 8 ∧ stk S ≤ 8 ∧ mo O 109 [vr (b + 1), v1] n M (kI O j n0 Q (pc + 3) L S n)) := by
  have e : kR (mR 109) O j n0 Q (pc + 3) L S n = kI O j n0 Q (pc + 3) L S n := kR_I (Or.inl rfl)
  rw [← e]; exact J_callV (As := [v1]) ce_211 (by rw [hm]) rfl rfl (by decide +kernel) rfl rfl hd
theorem ce_212 : (8, 85, 0, 108, 1342, 0) ∈ calL := by decide +kernel
theorem c_212 {O : pO} {j n0 : Nat} {Q : pQ} {pc : Nat} {L : pL} {S : List pv} {n : Nat} {M : pM} {b : Nat} {v1 v2 : pv} (hm : mO j = 8) (hd : decode (mB j) pc = .ok (.invokevirtual 85, 3)) : J O j n0 Q pc L (v2 :: v1 :: vr (b + 1) :: S) n M = (ob n b = 8 ∧ stk S ≤ 8 ∧ mo O 108 [vr (b + 1), v1, v2] n M (kI O j n0 Q (pc + 3) L S n)) := by
  have e : kR (mR 108) O j n0 Q (pc + 3) L S n = kI O j n0 Q (pc + 3) L S n := kR_I (Or.inl rfl)
  rw [← e]; exact J_callV (As := [v1, v2]) ce_212 (by rw [hm]) rfl rfl (by decide +kernel) rfl rfl hd
theorem ce_213 : (8, 89, 0, 106, 1346, 0) ∈ calL := by decide +kernel
theorem c_213 {O : pO} {j n0 : Nat} {Q : pQ} {pc : Nat} {L : pL} {S : List pv} {n : Nat} {M : pM} {b : Nat} {v1 v2 : pv} (hm : mO j = 8) (hd : decode (mB j) pc = .ok (.invokevirtual 89, 3)) : J O j n0 Q pc L (v2 :: v1 :: vr (b + 1) :: S) n M = (ob n b = 8 ∧ stk S ≤ 8 ∧ mo O 106 [vr (b + 1), v1, v2] n M (kI O j n0 Q (pc + 3) L S n)) := by
  have e : kR (mR 106) O j n0 Q (pc + 3) L S n = kI O j n0 Q (pc + 3) L S n := kR_I (Or.inl rfl)
  rw [← e]; exact J_callV (As := [v1, v2]) ce_213 (by rw [hm]) rfl rfl (by decide +kernel) rfl rfl hd
theorem ce_214 : (8, 92, 1, 299, 1350, 0) ∈ calL := by decide +kernel
theorem c_214 {O : pO} {j n0 : Nat} {Q : pQ} {pc : Nat} {L : pL} {S : List pv} {n : Nat} {M : pM} {a b : Int} (hm : mO j = 8) (hd : decode (mB j) pc = .ok (.invokestatic 92, 3)) : J O j n0 Q pc L (vi b :: vi a :: S) n M = (stk S ≤ 8 ∧ J O j n0 Q (pc + 3) L (vi (if b < a then b else a) :: S) n M) := J_min ce_214 (by rw [hm]) rfl (by decide +kernel) hd
theorem ce_215 : (11, 242, 0, 107, 1351, 1) ∈ calL := by decide +kernel
theorem c_215 {O : pO} {j n0 : Nat} {Q : pQ} {pc : Nat} {L : pL} {S : List pv} {n : Nat} {M : pM} {b : Nat} {v1 : pv} (hm : mO j = 11) (hd : decode (mB j) pc = .ok (.invokevirtual 242, 3)) : J O j n0 Q pc L (v1 :: vr (b + 1) :: S) n M = (ob n b = 8 ∧ stk S ≤ 8 ∧ mo O 107 [vr (b + 1), v1] n M (kI O j n0 Q (pc + 3) L S n)) := by
  have e : kR (mR 107) O j n0 Q (pc + 3) L S n = kI O j n0 Q (pc + 3) L S n := kR_I (Or.inl rfl)
  rw [← e]; exact J_callV (As := [v1]) ce_215 (by rw [hm]) rfl rfl (by decide +kernel) rfl rfl hd
theorem ce_216 : (11, 245, 0, 104, 1355, 1) ∈ calL := by decide +kernel
theorem c_216 {O : pO} {j n0 : Nat} {Q : pQ} {pc : Nat} {L : pL} {S : List pv} {n : Nat} {M : pM} {b : Nat} {v1 : pv} (hm : mO j = 11) (hd : decode (mB j) pc = .ok (.invokevirtual 245, 3)) : J O j n0 Q pc L (v1 :: vr (b + 1) :: S) n M = (ob n b = 8 ∧ stk S ≤ 8 ∧ mo O 104 [vr (b + 1), v1] n M (kI O j n0 Q (pc + 3) L S n)) := by
  have e : kR (mR 104) O j n0 Q (pc + 3) L S n = kI O j n0 Q (pc + 3) L S n := kR_I (Or.inl rfl)
  rw [← e]; exact J_callV (As := [v1]) ce_216 (by rw [hm]) rfl rfl (by decide +kernel) rfl rfl hd
theorem ce_217 : (8, 81, 0, 105, 1359, 0) ∈ calL := by decide +kernel
theorem c_217 {O : pO} {j n0 : Nat} {Q : pQ} {pc : Nat} {L : pL} {S : List pv} {n : Nat} {M : pM} {b : Nat} {v1 : pv} (hm : mO j = 8) (hd : decode (mB j) pc = .ok (.invokevirtual 81, 3)) : J O j n0 Q pc L (v1 :: vr (b + 1) :: S) n M = (ob n b = 8 ∧ stk S ≤ 8 ∧ mo O 105 [vr (b + 1), v1] n M (kI O j n0 Q (pc + 3) L S n)) := by
  have e : kR (mR 105) O j n0 Q (pc + 3) L S n = kI O j n0 Q (pc + 3) L S n := kR_I (Or.inr (Or.inl rfl))
  rw [← e]; exact J_callV (As := [v1]) ce_217 (by rw [hm]) rfl rfl (by decide +kernel) rfl rfl hd
theorem ce_218 : (11, 248, 0, 110, 1363, 1) ∈ calL := by decide +kernel
theorem c_218 {O : pO} {j n0 : Nat} {Q : pQ} {pc : Nat} {L : pL} {S : List pv} {n : Nat} {M : pM} {b : Nat} {v1 : pv} (hm : mO j = 11) (hd : decode (mB j) pc = .ok (.invokevirtual 248, 3)) : J O j n0 Q pc L (v1 :: vr (b + 1) :: S) n M = (ob n b = 8 ∧ stk S ≤ 8 ∧ mo O 110 [vr (b + 1), v1] n M (kI O j n0 Q (pc + 3) L S n)) := by
  have e : kR (mR 110) O j n0 Q (pc + 3) L S n = kI O j n0 Q (pc + 3) L S n := kR_I (Or.inl rfl)
  rw [← e]; exact J_callV (As := [v1]) ce_218 (by rw [hm]) rfl rfl (by decide +kernel) rfl rfl hd
theorem ce_219 : (8, 100, 0, 56, 1367, 1) ∈ calL := by decide +kernel
theorem c_219 {O : pO} {j n0 : Nat} {Q : pQ} {pc : Nat} {L : pL} {S : List pv} {n : Nat} {M : pM} {b : Nat} {v1 : pv} (hm : mO j = 8) (hd : decode (mB j) pc = .ok (.invokevirtual 100, 3)) : J O j n0 Q pc L (v1 :: vr (b + 1) :: S) n M = (ob n b = 4 ∧ stk S ≤ 8 ∧ mo O 56 [vr (b + 1), v1] n M (kI O j n0 Q (pc + 3) L S n)) := by
  have e : kR (mR 56) O j n0 Q (pc + 3) L S n = kI O j n0 Q (pc + 3) L S n := kR_I (Or.inl rfl)
  rw [← e]; exact J_callV (As := [v1]) ce_219 (by rw [hm]) rfl rfl (by decide +kernel) rfl rfl hd
theorem ce_220 : (8, 104, 0, 57, 1371, 1) ∈ calL := by decide +kernel
theorem c_220 {O : pO} {j n0 : Nat} {Q : pQ} {pc : Nat} {L : pL} {S : List pv} {n : Nat} {M : pM} {b : Nat} {v1 : pv} (hm : mO j = 8) (hd : decode (mB j) pc = .ok (.invokevirtual 104, 3)) : J O j n0 Q pc L (v1 :: vr (b + 1) :: S) n M = (ob n b = 4 ∧ stk S ≤ 8 ∧ mo O 57 [vr (b + 1), v1] n M (kI O j n0 Q (pc + 3) L S n)) := by
  have e : kR (mR 57) O j n0 Q (pc + 3) L S n = kI O j n0 Q (pc + 3) L S n := kR_I (Or.inl rfl)
  rw [← e]; exact J_callV (As := [v1]) ce_220 (by rw [hm]) rfl rfl (by decide +kernel) rfl rfl hd
theorem ce_221 : (8, 107, 0, 55, 1375, 1) ∈ calL := by decide +kernel
theorem c_221 {O : pO} {j n0 : Nat} {Q : pQ} {pc : Nat} {L : pL} {S : List pv} {n : Nat} {M : pM} {b : Nat} {v1 v2 : pv} (hm : mO j = 8) (hd : decode (mB j) pc = .ok (.invokevirtual 107, 3)) : J O j n0 Q pc L (v2 :: v1 :: vr (b + 1) :: S) n M = (ob n b = 4 ∧ stk S ≤ 8 ∧ mo O 55 [vr (b + 1), v1, v2] n M (kI O j n0 Q (pc + 3) L S n)) := by
  have e : kR (mR 55) O j n0 Q (pc + 3) L S n = kI O j n0 Q (pc + 3) L S n := kR_I (Or.inr (Or.inl rfl))
  rw [← e]; exact J_callV (As := [v1, v2]) ce_221 (by rw [hm]) rfl rfl (by decide +kernel) rfl rfl hd
theorem ce_222 : (11, 252, 0, 111, 1379, 1) ∈ calL := by decide +kernel
theorem c_222 {O : pO} {j n0 : Nat} {Q : pQ} {pc : Nat} {L : pL} {S : List pv} {n : Nat} {M : pM} {b : Nat} {v1 : pv} (hm : mO j = 11) (hd : decode (mB j) pc = .ok (.invokevirtual 252, 3)) : J O j n0 Q pc L (v1 :: vr (b + 1) :: S) n M = (ob n b = 8 ∧ stk S ≤ 8 ∧ mo O 111 [vr (b + 1), v1] n M (kI O j n0 Q (pc + 3) L S n)) := by
  have e : kR (mR 111) O j n0 Q (pc + 3) L S n = kI O j n0 Q (pc + 3) L S n := kR_I (Or.inl rfl)
  rw [← e]; exact J_callV (As := [v1]) ce_222 (by rw [hm]) rfl rfl (by decide +kernel) rfl rfl hd
theorem ce_223 : (8, 110, 0, 112, 1383, 0) ∈ calL := by decide +kernel
theorem c_223 {O : pO} {j n0 : Nat} {Q : pQ} {pc : Nat} {L : pL} {S : List pv} {n : Nat} {M : pM} {b : Nat} {v1 v2 v3 : pv} (hm : mO j = 8) (hd : decode (mB j) pc = .ok (.invokevirtual 110, 3)) : J O j n0 Q pc L (v3 :: v2 :: v1 :: vr (b + 1) :: S) n M = (ob n b = 8 ∧ stk S ≤ 8 ∧ mo O 112 [vr (b + 1), v1, v2, v3] n M (kI O j n0 Q (pc + 3) L S n)) := by
  have e : kR (mR 112) O j n0 Q (pc + 3) L S n = kI O j n0 Q (pc + 3) L S n := kR_I (Or.inr (Or.inl rfl))
  rw [← e]; exact J_callV (As := [v1, v2, v3]) ce_223 (by rw [hm]) rfl rfl (by decide +kernel) rfl rfl hd
theorem ce_224 : (8, 114, 0, 110, 1387, 0) ∈ calL := by decide +kernel
theorem c_224 {O : pO} {j n0 : Nat} {Q : pQ} {pc : Nat} {L : pL} {S : List pv} {n : Nat} {M : pM} {b : Nat} {v1 : pv} (hm : mO j = 8) (hd : decode (mB j) pc = .ok (.invokevirtual 114, 3)) : J O j n0 Q pc L (v1 :: vr (b + 1) :: S) n M = (ob n b = 8 ∧ stk S ≤ 8 ∧ mo O 110 [vr (b + 1), v1] n M (kI O j n0 Q (pc + 3) L S n)) := by
  have e : kR (mR 110) O j n0 Q (pc + 3) L S n = kI O j n0 Q (pc + 3) L S n := kR_I (Or.inl rfl)
  rw [← e]; exact J_callV (As := [v1]) ce_224 (by rw [hm]) rfl rfl (by decide +kernel) rfl rfl hd
theorem ce_225 : (13, 121, 0, 153, 1388, 0) ∈ calL := by decide +kernel
theorem c_225 {O : pO} {j n0 : Nat} {Q : pQ} {pc : Nat} {L : pL} {S : List pv} {n : Nat} {M : pM} {b : Nat} {v1 v2 : pv} (hm : mO j = 13) (hd : decode (mB j) pc = .ok (.invokevirtual 121, 3)) : J O j n0 Q pc L (v2 :: v1 :: vr (b + 1) :: S) n M = (ob n b = 11 ∧ stk S ≤ 8 ∧ mo O 153 [vr (b + 1), v1, v2] n M (kI O j n0 Q (pc + 3) L S n)) := by
  have e : kR (mR 153) O j n0 Q (pc + 3) L S n = kI O j n0 Q (pc + 3) L S n := kR_I (Or.inl rfl)
  rw [← e]; exact J_callV (As := [v1, v2]) ce_225 (by rw [hm]) rfl rfl (by decide +kernel) rfl rfl hd
theorem ce_226 : (11, 258, 0, 79, 1392, 1) ∈ calL := by decide +kernel
theorem c_226 {O : pO} {j n0 : Nat} {Q : pQ} {pc : Nat} {L : pL} {S : List pv} {n : Nat} {M : pM} {b : Nat} {v1 v2 v3 v4 v5 : pv} (hm : mO j = 11) (hd : decode (mB j) pc = .ok (.invokevirtual 258, 3)) : J O j n0 Q pc L (v5 :: v4 :: v3 :: v2 :: v1 :: vr (b + 1) :: S) n M = (ob n b = 6 ∧ stk S ≤ 8 ∧ mo O 79 [vr (b + 1), v1, v2, v3, v4, v5] n M (kV O j n0 Q (pc + 3) L S n)) := by
  have e : kR (mR 79) O j n0 Q (pc + 3) L S n = kV O j n0 Q (pc + 3) L S n := kR_V
  rw [← e]; exact J_callV (As := [v1, v2, v3, v4, v5]) ce_226 (by rw [hm]) rfl rfl (by decide +kernel) rfl rfl hd
theorem ce_227 : (6, 21, 0, 99, 1396, 1) ∈ calL := by decide +kernel
theorem c_227 {O : pO} {j n0 : Nat} {Q : pQ} {pc : Nat} {L : pL} {S : List pv} {n : Nat} {M : pM} {b : Nat} {v1 v2 v3 : pv} (hm : mO j = 6) (hd : decode (mB j) pc = .ok (.invokevirtual 21, 3)) : J O j n0 Q pc L (v3 :: v2 :: v1 :: vr (b + 1) :: S) n M = (ob n b = 8 ∧ stk S ≤ 8 ∧ mo O 99 [vr (b + 1), v1, v2, v3] n M (kV O j n0 Q (pc + 3) L S n)) := by
  have e : kR (mR 99) O j n0 Q (pc + 3) L S n = kV O j n0 Q (pc + 3) L S n := kR_V
  rw [← e]; exact J_callV (As := [v1, v2, v3]) ce_227 (by rw [hm]) rfl rfl (by decide +kernel) rfl rfl hd
theorem ce_228 : (6, 27, 0, 101, 1397, 1) ∈ calL := by decide +kernel
theorem c_228 {O : pO} {j n0 : Nat} {Q : pQ} {pc : Nat} {L : pL} {S : List pv} {n : Nat} {M : pM} {b : Nat} {v1 : pv} (hm : mO j = 6) (hd : decode (mB j) pc = .ok (.invokevirtual 27, 3)) : J O j n0 Q pc L (v1 :: vr (b + 1) :: S) n M = (ob n b = 8 ∧ stk S ≤ 8 ∧ mo O 101 [vr (b + 1), v1] n M (kV O j n0 Q (pc + 3) L S n)) := by
  have e : kR (mR 101) O j n0 Q (pc + 3) L S n = kV O j n0 Q (pc + 3) L S n := kR_V
  rw [← e]; exact J_callV (As := [v1]) ce_228 (by rw [hm]) rfl rfl (by decide +kernel) rfl rfl hd
theorem ce_229 : (6, 31, 0, 104, 1398, 1) ∈ calL := by decide +kernel
theorem c_229 {O : pO} {j n0 : Nat} {Q : pQ} {pc : Nat} {L : pL} {S : List pv} {n : Nat} {M : pM} {b : Nat} {v1 : pv} (hm : mO j = 6) (hd : decode (mB j) pc = .ok (.invokevirtual 31, 3)) : J O j n0 Q pc L (v1 :: vr (b + 1) :: S) n M = (ob n b = 8 ∧ stk S ≤ 8 ∧ mo O 104 [vr (b + 1), v1] n M (kI O j n0 Q (pc + 3) L S n)) := by
  have e : kR (mR 104) O j n0 Q (pc + 3) L S n = kI O j n0 Q (pc + 3) L S n := kR_I (Or.inl rfl)
  rw [← e]; exact J_callV (As := [v1]) ce_229 (by rw [hm]) rfl rfl (by decide +kernel) rfl rfl hd
theorem ce_230 : (6, 35, 0, 109, 1399, 1) ∈ calL := by decide +kernel
theorem c_230 {O : pO} {j n0 : Nat} {Q : pQ} {pc : Nat} {L : pL} {S : List pv} {n : Nat} {M : pM} {b : Nat} {v1 : pv} (hm : mO j = 6) (hd : decode (mB j) pc = .ok (.invokevirtual 35, 3)) : J O j n0 Q pc L (v1 :: vr (b + 1) :: S) n M = (ob n b = 8 ∧ stk S ≤ 8 ∧ mo O 109 [vr (b + 1), v1] n M (kI O j n0 Q (pc + 3) L S n)) := by
  have e : kR (mR 109) O j n0 Q (pc + 3) L S n = kI O j n0 Q (pc + 3) L S n := kR_I (Or.inl rfl)
  rw [← e]; exact J_callV (As := [v1]) ce_230 (by rw [hm]) rfl rfl (by decide +kernel) rfl rfl hd
theorem ce_231 : (6, 38, 0, 107, 1400, 1) ∈ calL := by decide +kernel
theorem c_231 {O : pO} {j n0 : Nat} {Q : pQ} {pc : Nat} {L : pL} {S : List pv} {n : Nat} {M : pM} {b : Nat} {v1 : pv} (hm : mO j = 6) (hd : decode (mB j) pc = .ok (.invokevirtual 38, 3)) : J O j n0 Q pc L (v1 :: vr (b + 1) :: S) n M = (ob n b = 8 ∧ stk S ≤ 8 ∧ mo O 107 [vr (b + 1), v1] n M (kI O j n0 Q (pc + 3) L S n)) := by
  have e : kR (mR 107) O j n0 Q (pc + 3) L S n = kI O j n0 Q (pc + 3) L S n := kR_I (Or.inl rfl)
  rw [← e]; exact J_callV (As := [v1]) ce_231 (by rw [hm]) rfl rfl (by decide +kernel) rfl rfl hd
theorem ce_232 : (6, 41, 0, 110, 1401, 1) ∈ calL := by decide +kernel
theorem c_232 {O : pO} {j n0 : Nat} {Q : pQ} {pc : Nat} {L : pL} {S : List pv} {n : Nat} {M : pM} {b : Nat} {v1 : pv} (hm : mO j = 6) (hd : decode (mB j) pc = .ok (.invokevirtual 41, 3)) : J O j n0 Q pc L (v1 :: vr (b + 1) :: S) n M = (ob n b = 8 ∧ stk S ≤ 8 ∧ mo O 110 [vr (b + 1), v1] n M (kI O j n0 Q (pc + 3) L S n)) := by
  have e : kR (mR 110) O j n0 Q (pc + 3) L S n = kI O j n0 Q (pc + 3) L S n := kR_I (Or.inl rfl)
  rw [← e]; exact J_callV (As := [v1]) ce_232 (by rw [hm]) rfl rfl (by decide +kernel) rfl rfl hd
theorem ce_233 : (6, 45, 1, 295, 1402, 0) ∈ calL := by decide +kernel
theorem c_233 {O : pO} {j n0 : Nat} {Q : pQ} {pc : Nat} {L : pL} {S : List pv} {n : Nat} {M : pM} {v1 : pv} (hm : mO j = 6) (hd : decode (mB j) pc = .ok (.invokestatic 45, 3)) : J O j n0 Q pc L (v1 :: S) n M = (stk S ≤ 8 ∧ mo O 295 [v1] n M (kI O j n0 Q (pc + 3) L S n)) := by
  have e : kR (mR 295) O j n0 Q (pc + 3) L S n = kI O j n0 Q (pc + 3) L S n := kR_I (Or.inl rfl)
  rw [← e]; exact J_callS (As := [v1]) ce_233 (by rw [hm]) rfl rfl (by decide +kernel) rfl rfl hd
theorem ce_234 : (6, 57, 0, 51, 1408, 1) ∈ calL := by decide +kernel
theorem c_234 {O : pO} {j n0 : Nat} {Q : pQ} {pc : Nat} {L : pL} {S : List pv} {n : Nat} {M : pM} {b : Nat} {v1 : pv} (hm : mO j = 6) (hd : decode (mB j) pc = .ok (.invokevirtual 57, 3)) : J O j n0 Q pc L (v1 :: vr (b + 1) :: S) n M = (ob n b = 4 ∧ stk S ≤ 8 ∧ mo O 51 [vr (b + 1), v1] n M (kI O j n0 Q (pc + 3) L S n)) := by
  have e : kR (mR 51) O j n0 Q (pc + 3) L S n = kI O j n0 Q (pc + 3) L S n := kR_I (Or.inl rfl)
  rw [← e]; exact J_callV (As := [v1]) ce_234 (by rw [hm]) rfl rfl (by decide +kernel) rfl rfl hd
theorem ce_235 : (4, 66, 0, 49, 1412, 0) ∈ calL := by decide +kernel
theorem c_235 {O : pO} {j n0 : Nat} {Q : pQ} {pc : Nat} {L : pL} {S : List pv} {n : Nat} {M : pM} {b : Nat} {v1 : pv} (hm : mO j = 4) (hd : decode (mB j) pc = .ok (.invokevirtual 66, 3)) : J O j n0 Q pc L (v1 :: vr (b + 1) :: S) n M = (ob n b = 4 ∧ stk S ≤ 8 ∧ mo O 49 [vr (b + 1), v1] n M (kI O j n0 Q (pc + 3) L S n)) := by
  have e : kR (mR 49) O j n0 Q (pc + 3) L S n = kI O j n0 Q (pc + 3) L S n := kR_I (Or.inr (Or.inl rfl))
  rw [← e]; exact J_callV (As := [v1]) ce_235 (by rw [hm]) rfl rfl (by decide +kernel) rfl rfl hd
theorem ce_236 : (6, 62, 1, 298, 1413, 0) ∈ calL := by decide +kernel
theorem c_236 {O : pO} {j n0 : Nat} {Q : pQ} {pc : Nat} {L : pL} {S : List pv} {n : Nat} {M : pM} {a b : Int} (hm : mO j = 6) (hd : decode (mB j) pc = .ok (.invokestatic 62, 3)) : J O j n0 Q pc L (vi b :: vi a :: S) n M = (stk S ≤ 8 ∧ J O j n0 Q (pc + 3) L (vi (if a < b then b else a) :: S) n M) := J_max ce_236 (by rw [hm]) rfl (by decide +kernel) hd
theorem ce_237 : (6, 68, 0, 105, 1414, 1) ∈ calL := by decide +kernel
theorem c_237 {O : pO} {j n0 : Nat} {Q : pQ} {pc : Nat} {L : pL} {S : List pv} {n : Nat} {M : pM} {b : Nat} {v1 : pv} (hm : mO j = 6) (hd : decode (mB j) pc = .ok (.invokevirtual 68, 3)) : J O j n0 Q pc L (v1 :: vr (b + 1) :: S) n M = (ob n b = 8 ∧ stk S ≤ 8 ∧ mo O 105 [vr (b + 1), v1] n M (kI O j n0 Q (pc + 3) L S n)) := by
  have e : kR (mR 105) O j n0 Q (pc + 3) L S n = kI O j n0 Q (pc + 3) L S n := kR_I (Or.inr (Or.inl rfl))
  rw [← e]; exact J_callV (As := [v1]) ce_237 (by rw [hm]) rfl rfl (by decide +kernel) rfl rfl hd
theorem ce_238 : (11, 262, 0, 80, 1415, 1) ∈ calL := by decide +kernel
theorem c_238 {O : pO} {j n0 : Nat} {Q : pQ} {pc : Nat} {L : pL} {S : List pv} {n : Nat} {M : pM} {b : Nat} {v1 v2 : pv} (hm : mO j = 11) (hd : decode (mB j) pc = .ok (.invokevirtual 262, 3)) : J O j n0 Q pc L (v2 :: v1 :: vr (b + 1) :: S) n M = (ob n b = 6 ∧ stk S ≤ 8 ∧ mo O 80 [vr (b + 1), v1, v2] n M (kI O j n0 Q (pc + 3) L S n)) := by
  have e : kR (mR 80) O j n0 Q (pc + 3) L S n = kI O j n0 Q (pc + 3) L S n := kR_I (Or.inl rfl)
  rw [← e]; exact J_callV (As := [v1, v2]) ce_238 (by rw [hm]) rfl rfl (by decide +kernel) rfl rfl hd
theorem ce_239 : (6, 72, 0, 45, 1419, 1) ∈ calL := by decide +kernel
theorem c_239 {O : pO} {j n0 : Nat} {Q : pQ} {pc : Nat} {L : pL} {S : List pv} {n : Nat} {M : pM} {b : Nat} {v1 v2 : pv} (hm : mO j = 6) (hd : decode (mB j) pc = .ok (.invokevirtual 72, 3)) : J O j n0 Q pc L (v2 :: v1 :: vr (b + 1) :: S) n M = (ob n b = 3 ∧ stk S ≤ 8 ∧ mo O 45 [vr (b + 1), v1, v2] n M (kI O j n0 Q (pc + 3) L S n)) := by
  have e : kR (mR 45) O j n0 Q (pc + 3) L S n = kI O j n0 Q (pc + 3) L S n := kR_I (Or.inl rfl)
  rw [← e]; exact J_callV (As := [v1, v2]) ce_239 (by rw [hm]) rfl rfl (by decide +kernel) rfl rfl hd
theorem ce_240 : (3, 92, 1, 46, 1423, 0) ∈ calL := by decide +kernel
theorem c_240 {O : pO} {j n0 : Nat} {Q : pQ} {pc : Nat} {L : pL} {S : List pv} {n : Nat} {M : pM} {v1 v2 v3 : pv} (hm : mO j = 3) (hd : decode (mB j) pc = .ok (.invokestatic 92, 3)) : J O j n0 Q pc L (v3 :: v2 :: v1 :: S) n M = (stk S ≤ 8 ∧ mo O 46 [v1, v2, v3] n M (kI O j n0 Q (pc + 3) L S n)) := by
  have e : kR (mR 46) O j n0 Q (pc + 3) L S n = kI O j n0 Q (pc + 3) L S n := kR_I (Or.inl rfl)
  rw [← e]; exact J_callS (As := [v1, v2, v3]) ce_240 (by rw [hm]) rfl rfl (by decide +kernel) rfl rfl hd
theorem ce_241 : (13, 125, 0, 154, 1426, 0) ∈ calL := by decide +kernel
theorem c_241 {O : pO} {j n0 : Nat} {Q : pQ} {pc : Nat} {L : pL} {S : List pv} {n : Nat} {M : pM} {b : Nat} {v1 v2 : pv} (hm : mO j = 13) (hd : decode (mB j) pc = .ok (.invokevirtual 125, 3)) : J O j n0 Q pc L (v2 :: v1 :: vr (b + 1) :: S) n M = (ob n b = 11 ∧ stk S ≤ 8 ∧ mo O 154 [vr (b + 1), v1, v2] n M (kI O j n0 Q (pc + 3) L S n)) := by
  have e : kR (mR 154) O j n0 Q (pc + 3) L S n = kI O j n0 Q (pc + 3) L S n := kR_I (Or.inl rfl)
  rw [← e]; exact J_callV (As := [v1, v2]) ce_241 (by rw [hm]) rfl rfl (by decide +kernel) rfl rfl hd
theorem ce_242 : (11, 269, 0, 81, 1430, 1) ∈ calL := by decide +kernel
theorem c_242 {O : pO} {j n0 : Nat} {Q : pQ} {pc : Nat} {L : pL} {S : List pv} {n : Nat} {M : pM} {b : Nat} {v1 v2 v3 : pv} (hm : mO j = 11) (hd : decode (mB j) pc = .ok (.invokevirtual 269, 3)) : J O j n0 Q pc L (v3 :: v2 :: v1 :: vr (b + 1) :: S) n M = (ob n b = 6 ∧ stk S ≤ 8 ∧ mo O 81 [vr (b + 1), v1, v2, v3] n M (kI O j n0 Q (pc + 3) L S n)) := by
  have e : kR (mR 81) O j n0 Q (pc + 3) L S n = kI O j n0 Q (pc + 3) L S n := kR_I (Or.inl rfl)
  rw [← e]; exact J_callV (As := [v1, v2, v3]) ce_242 (by rw [hm]) rfl rfl (by decide +kernel) rfl rfl hd
theorem ce_243 : (6, 78, 0, 80, 1434, 0) ∈ calL := by decide +kernel
theorem c_243 {O : pO} {j n0 : Nat} {Q : pQ} {pc : Nat} {L : pL} {S : List pv} {n : Nat} {M : pM} {b : Nat} {v1 v2 : pv} (hm : mO j = 6) (hd : decode (mB j) pc = .ok (.invokevirtual 78, 3)) : J O j n0 Q pc L (v2 :: v1 :: vr (b + 1) :: S) n M = (ob n b = 6 ∧ stk S ≤ 8 ∧ mo O 80 [vr (b + 1), v1, v2] n M (kI O j n0 Q (pc + 3) L S n)) := by
  have e : kR (mR 80) O j n0 Q (pc + 3) L S n = kI O j n0 Q (pc + 3) L S n := kR_I (Or.inl rfl)
  rw [← e]; exact J_callV (As := [v1, v2]) ce_243 (by rw [hm]) rfl rfl (by decide +kernel) rfl rfl hd
theorem ce_244 : (13, 129, 0, 155, 1435, 0) ∈ calL := by decide +kernel
theorem c_244 {O : pO} {j n0 : Nat} {Q : pQ} {pc : Nat} {L : pL} {S : List pv} {n : Nat} {M : pM} {b : Nat} {v1 : pv} (hm : mO j = 13) (hd : decode (mB j) pc = .ok (.invokevirtual 129, 3)) : J O j n0 Q pc L (v1 :: vr (b + 1) :: S) n M = (ob n b = 11 ∧ stk S ≤ 8 ∧ mo O 155 [vr (b + 1), v1] n M (kI O j n0 Q (pc + 3) L S n)) := by
  have e : kR (mR 155) O j n0 Q (pc + 3) L S n = kI O j n0 Q (pc + 3) L S n := kR_I (Or.inl rfl)
  rw [← e]; exact J_callV (As := [v1]) ce_244 (by rw [hm]) rfl rfl (by decide +kernel) rfl rfl hd
theorem ce_245 : (11, 273, 0, 123, 1439, 1) ∈ calL := by decide +kernel
theorem c_245 {O : pO} {j n0 : Nat} {Q : pQ} {pc : Nat} {L : pL} {S : List pv} {n : Nat} {M : pM} {b : Nat} {v1 : pv} (hm : mO j = 11) (hd : decode (mB j) pc = .ok (.invokevirtual 273, 3)) : J O j n0 Q pc L (v1 :: vr (b + 1) :: S) n M = (ob n b = 10 ∧ stk S ≤ 8 ∧ mo O 123 [vr (b + 1), v1] n M (kI O j n0 Q (pc + 3) L S n)) := by
  have e : kR (mR 123) O j n0 Q (pc + 3) L S n = kI O j n0 Q (pc + 3) L S n := kR_I (Or.inl rfl)
  rw [← e]; exact J_callV (As := [v1]) ce_245 (by rw [hm]) rfl rfl (by decide +kernel) rfl rfl hd
theorem ce_246 : (13, 133, 0, 156, 1443, 0) ∈ calL := by decide +kernel
theorem c_246 {O : pO} {j n0 : Nat} {Q : pQ} {pc : Nat} {L : pL} {S : List pv} {n : Nat} {M : pM} {b : Nat} (hm : mO j = 13) (hd : decode (mB j) pc = .ok (.invokevirtual 133, 3)) : J O j n0 Q pc L (vr (b + 1) :: S) n M = (ob n b = 11 ∧ stk S ≤ 8 ∧ mo O 156 [vr (b + 1)] n M (kI O j n0 Q (pc + 3) L S n)) := by
  have e : kR (mR 156) O j n0 Q (pc + 3) L S n = kI O j n0 Q (pc + 3) L S n := kR_I (Or.inl rfl)
  rw [← e]; exact J_callV (As := []) ce_246 (by rw [hm]) rfl rfl (by decide +kernel) rfl rfl hd
theorem ce_247 : (13, 137, 0, 157, 1447, 0) ∈ calL := by decide +kernel
theorem c_247 {O : pO} {j n0 : Nat} {Q : pQ} {pc : Nat} {L : pL} {S : List pv} {n : Nat} {M : pM} {b : Nat} {v1 v2 : pv} (hm : mO j = 13) (hd : decode (mB j) pc = .ok (.invokevirtual 137, 3)) : J O j n0 Q pc L (v2 :: v1 :: vr (b + 1) :: S) n M = (ob n b = 11 ∧ stk S ≤ 8 ∧ mo O 157 [vr (b + 1), v1, v2] n M (kI O j n0 Q (pc + 3) L S n)) := by
  have e : kR (mR 157) O j n0 Q (pc + 3) L S n = kI O j n0 Q (pc + 3) L S n := kR_I (Or.inl rfl)
  rw [← e]; exact J_callV (As := [v1, v2]) ce_247 (by rw [hm]) rfl rfl (by decide +kernel) rfl rfl hd
theorem ce_248 : (11, 276, 0, 124, 1451, 1) ∈ calL := by decide +kernel
theorem c_248 {O : pO} {j n0 : Nat} {Q : pQ} {pc : Nat} {L : pL} {S : List pv} {n : Nat} {M : pM} {b : Nat} {v1 v2 v3 : pv} (hm : mO j = 11) (hd : decode (mB j) pc = .ok (.invokevirtual 276, 3)) : J O j n0 Q pc L (v3 :: v2 :: v1 :: vr (b + 1) :: S) n M = (ob n b = 10 ∧ stk S ≤ 8 ∧ mo O 124 [vr (b + 1), v1, v2, v3] n M (kI O j n0 Q (pc + 3) L S n)) := by
  have e : kR (mR 124) O j n0 Q (pc + 3) L S n = kI O j n0 Q (pc + 3) L S n := kR_I (Or.inl rfl)
  rw [← e]; exact J_callV (As := [v1, v2, v3]) ce_248 (by rw [hm]) rfl rfl (by decide +kernel) rfl rfl hd
theorem ce_249 : (10, 31, 0, 125, 1455, 0) ∈ calL := by decide +kernel
theorem c_249 {O : pO} {j n0 : Nat} {Q : pQ} {pc : Nat} {L : pL} {S : List pv} {n : Nat} {M : pM} {b : Nat} {v1 v2 : pv} (hm : mO j = 10) (hd : decode (mB j) pc = .ok (.invokevirtual 31, 3)) : J O j n0 Q pc L (v2 :: v1 :: vr (b + 1) :: S) n M = (ob n b = 10 ∧ stk S ≤ 8 ∧ mo O 125 [vr (b + 1), v1, v2] n M (kV O j n0 Q (pc + 3) L S n)) := by
  have e : kR (mR 125) O j n0 Q (pc + 3) L S n = kV O j n0 Q (pc + 3) L S n := kR_V
  rw [← e]; exact J_callV (As := [v1, v2]) ce_249 (by rw [hm]) rfl rfl (by decide +kernel) rfl rfl hd
theorem ce_250 : (10, 36, 1, 322, 1460, 0) ∈ calL := by decide +kernel
theorem c_250 {O : pO} {j n0 : Nat} {Q : pQ} {pc : Nat} {L : pL} {S : List pv} {n : Nat} {M : pM} {v1 v2 : pv} (hm : mO j = 10) (hd : decode (mB j) pc = .ok (.invokestatic 36, 3)) : J O j n0 Q pc L (v2 :: v1 :: S) n M = (stk S ≤ 8 ∧ mo O 322 [v1, v2] n M (kV O j n0 Q (pc + 3) L S n)) := by
  have e : kR (mR 322) O j n0 Q (pc + 3) L S n = kV O j n0 Q (pc + 3) L S n := kR_V
  rw [← e]; exact J_callS (As := [v1, v2]) ce_250 (by rw [hm]) rfl rfl (by decide +kernel) rfl rfl hd
theorem ce_251 : (13, 141, 0, 158, 1461, 0) ∈ calL := by decide +kernel
theorem c_251 {O : pO} {j n0 : Nat} {Q : pQ} {pc : Nat} {L : pL} {S : List pv} {n : Nat} {M : pM} {b : Nat} {v1 v2 : pv} (hm : mO j = 13) (hd : decode (mB j) pc = .ok (.invokevirtual 141, 3)) : J O j n0 Q pc L (v2 :: v1 :: vr (b + 1) :: S) n M = (ob n b = 11 ∧ stk S ≤ 8 ∧ mo O 158 [vr (b + 1), v1, v2] n M (kI O j n0 Q (pc + 3) L S n)) := by
  have e : kR (mR 158) O j n0 Q (pc + 3) L S n = kI O j n0 Q (pc + 3) L S n := kR_I (Or.inl rfl)
  rw [← e]; exact J_callV (As := [v1, v2]) ce_251 (by rw [hm]) rfl rfl (by decide +kernel) rfl rfl hd
theorem ce_252 : (11, 280, 0, 166, 1465, 0) ∈ calL := by decide +kernel
theorem c_252 {O : pO} {j n0 : Nat} {Q : pQ} {pc : Nat} {L : pL} {S : List pv} {n : Nat} {M : pM} {b : Nat} {v1 v2 : pv} (hm : mO j = 11) (hd : decode (mB j) pc = .ok (.invokevirtual 280, 3)) : J O j n0 Q pc L (v2 :: v1 :: vr (b + 1) :: S) n M = (ob n b = 11 ∧ stk S ≤ 8 ∧ mo O 166 [vr (b + 1), v1, v2] n M (kI O j n0 Q (pc + 3) L S n)) := by
  have e : kR (mR 166) O j n0 Q (pc + 3) L S n = kI O j n0 Q (pc + 3) L S n := kR_I (Or.inr (Or.inl rfl))
  rw [← e]; exact J_callV (As := [v1, v2]) ce_252 (by rw [hm]) rfl rfl (by decide +kernel) rfl rfl hd
theorem ce_253 : (11, 337, 0, 126, 1469, 1) ∈ calL := by decide +kernel
theorem c_253 {O : pO} {j n0 : Nat} {Q : pQ} {pc : Nat} {L : pL} {S : List pv} {n : Nat} {M : pM} {b : Nat} {v1 v2 v3 : pv} (hm : mO j = 11) (hd : decode (mB j) pc = .ok (.invokevirtual 337, 3)) : J O j n0 Q pc L (v3 :: v2 :: v1 :: vr (b + 1) :: S) n M = (ob n b = 10 ∧ stk S ≤ 8 ∧ mo O 126 [vr (b + 1), v1, v2, v3] n M (kI O j n0 Q (pc + 3) L S n)) := by
  have e : kR (mR 126) O j n0 Q (pc + 3) L S n = kI O j n0 Q (pc + 3) L S n := kR_I (Or.inr (Or.inl rfl))
  rw [← e]; exact J_callV (As := [v1, v2, v3]) ce_253 (by rw [hm]) rfl rfl (by decide +kernel) rfl rfl hd
theorem ce_254 : (10, 53, 0, 127, 1473, 0) ∈ calL := by decide +kernel
theorem c_254 {O : pO} {j n0 : Nat} {Q : pQ} {pc : Nat} {L : pL} {S : List pv} {n : Nat} {M : pM} {b : Nat} {v1 v2 v3 : pv} (hm : mO j = 10) (hd : decode (mB j) pc = .ok (.invokevirtual 53, 3)) : J O j n0 Q pc L (v3 :: v2 :: v1 :: vr (b + 1) :: S) n M = (ob n b = 10 ∧ stk S ≤ 8 ∧ mo O 127 [vr (b + 1), v1, v2, v3] n M (kV O j n0 Q (pc + 3) L S n)) := by
  have e : kR (mR 127) O j n0 Q (pc + 3) L S n = kV O j n0 Q (pc + 3) L S n := kR_V
  rw [← e]; exact J_callV (As := [v1, v2, v3]) ce_254 (by rw [hm]) rfl rfl (by decide +kernel) rfl rfl hd
theorem ce_255 : (10, 63, 1, 298, 1480, 0) ∈ calL := by decide +kernel
theorem c_255 {O : pO} {j n0 : Nat} {Q : pQ} {pc : Nat} {L : pL} {S : List pv} {n : Nat} {M : pM} {a b : Int} (hm : mO j = 10) (hd : decode (mB j) pc = .ok (.invokestatic 63, 3)) : J O j n0 Q pc L (vi b :: vi a :: S) n M = (stk S ≤ 8 ∧ J O j n0 Q (pc + 3) L (vi (if a < b then b else a) :: S) n M) := J_max ce_255 (by rw [hm]) rfl (by decide +kernel) hd
theorem ce_256 : (13, 145, 0, 159, 1481, 0) ∈ calL := by decide +kernel
theorem c_256 {O : pO} {j n0 : Nat} {Q : pQ} {pc : Nat} {L : pL} {S : List pv} {n : Nat} {M : pM} {b : Nat} {v1 v2 v3 : pv} (hm : mO j = 13) (hd : decode (mB j) pc = .ok (.invokevirtual 145, 3)) : J O j n0 Q pc L (v3 :: v2 :: v1 :: vr (b + 1) :: S) n M = (ob n b = 11 ∧ stk S ≤ 8 ∧ mo O 159 [vr (b + 1), v1, v2, v3] n M (kI O j n0 Q (pc + 3) L S n)) := by
  have e : kR (mR 159) O j n0 Q (pc + 3) L S n = kI O j n0 Q (pc + 3) L S n := kR_I (Or.inl rfl)
  rw [← e]; exact J_callV (As := [v1, v2, v3]) ce_256 (by rw [hm]) rfl rfl (by decide +kernel) rfl rfl hd
theorem ce_257 : (13, 149, 0, 160, 1485, 0) ∈ calL := by decide +kernel
theorem c_257 {O : pO} {j n0 : Nat} {Q : pQ} {pc : Nat} {L : pL} {S : List pv} {n : Nat} {M : pM} {b : Nat} {v1 : pv} (hm : mO j = 13) (hd : decode (mB j) pc = .ok (.invokevirtual 149, 3)) : J O j n0 Q pc L (v1 :: vr (b + 1) :: S) n M = (ob n b = 11 ∧ stk S ≤ 8 ∧ mo O 160 [vr (b + 1), v1] n M (kI O j n0 Q (pc + 3) L S n)) := by
  have e : kR (mR 160) O j n0 Q (pc + 3) L S n = kI O j n0 Q (pc + 3) L S n := kR_I (Or.inl rfl)
  rw [← e]; exact J_callV (As := [v1]) ce_257 (by rw [hm]) rfl rfl (by decide +kernel) rfl rfl hd
theorem ce_258 : (11, 298, 1, 296, 1489, 0) ∈ calL := by decide +kernel
theorem c_258 {O : pO} {j n0 : Nat} {Q : pQ} {pc : Nat} {L : pL} {S : List pv} {n : Nat} {M : pM} {v1 : pv} (hm : mO j = 11) (hd : decode (mB j) pc = .ok (.invokestatic 298, 3)) : J O j n0 Q pc L (v1 :: S) n M = (stk S ≤ 8 ∧ mo O 296 [v1] n M (kI O j n0 Q (pc + 3) L S n)) := by
  have e : kR (mR 296) O j n0 Q (pc + 3) L S n = kI O j n0 Q (pc + 3) L S n := kR_I (Or.inl rfl)
  rw [← e]; exact J_callS (As := [v1]) ce_258 (by rw [hm]) rfl rfl (by decide +kernel) rfl rfl hd
theorem ce_259 : (13, 12, 2, 188, 1492, 0) ∈ calL := by decide +kernel
theorem c_259 {O : pO} {j n0 : Nat} {Q : pQ} {pc : Nat} {L : pL} {S : List pv} {n : Nat} {M : pM} {b : Nat} (hm : mO j = 13) (hd : decode (mB j) pc = .ok (.invokespecial 12, 3)) : J O j n0 Q pc L (vr (b + 1) :: S) n M = (ob n b = 12 ∧ stk S ≤ 8 ∧ n + 57 ≤ n0 + mC j ∧ mo O 188 [vr (b + 1)] n M (kV O j n0 Q (pc + 3) L S (n + 57))) := J_callE (As := []) ce_259 (by rw [hm]) rfl rfl rfl rfl (by rw [hm]; decide +kernel) hd
theorem ce_260 : (12, 313, 0, 187, 1498, 0) ∈ calL := by decide +kernel
theorem c_260 {O : pO} {j n0 : Nat} {Q : pQ} {pc : Nat} {L : pL} {S : List pv} {n : Nat} {M : pM} {b : Nat} (hm : mO j = 12) (hd : decode (mB j) pc = .ok (.invokevirtual 313, 3)) : J O j n0 Q pc L (vr (b + 1) :: S) n M = (ob n b = 12 ∧ stk S ≤ 8 ∧ mo O 187 [vr (b + 1)] n M (kV O j n0 Q (pc + 3) L S n)) := by
  have e : kR (mR 187) O j n0 Q (pc + 3) L S n = kV O j n0 Q (pc + 3) L S n := kR_V
  rw [← e]; exact J_callV (As := []) ce_260 (by rw [hm]) rfl rfl (by decide +kernel) rfl rfl hd
theorem ce_261 : (12, 316, 0, 281, 1502, 0) ∈ calL := by decide +kernel
theorem c_261 {O : pO} {j n0 : Nat} {Q : pQ} {pc : Nat} {L : pL} {S : List pv} {n : Nat} {M : pM} {b : Nat} (hm : mO j = 12) (hd : decode (mB j) pc = .ok (.invokevirtual 316, 3)) : J O j n0 Q pc L (vr (b + 1) :: S) n M = (ob n b = 12 ∧ stk S ≤ 8 ∧ mo O 281 [vr (b + 1)] n M (kV O j n0 Q (pc + 3) L S n)) := by
  have e : kR (mR 281) O j n0 Q (pc + 3) L S n = kV O j n0 Q (pc + 3) L S n := kR_V
  rw [← e]; exact J_callV (As := []) ce_261 (by rw [hm]) rfl rfl (by decide +kernel) rfl rfl hd
theorem ce_262 : (13, 27, 0, 189, 1809, 0) ∈ calL := by decide +kernel
theorem c_262 {O : pO} {j n0 : Nat} {Q : pQ} {pc : Nat} {L : pL} {S : List pv} {n : Nat} {M : pM} {b : Nat} (hm : mO j = 13) (hd : decode (mB j) pc = .ok (.invokevirtual 27, 3)) : J O j n0 Q pc L (vr (b + 1) :: S) n M = (ob n b = 12 ∧ stk S ≤ 8 ∧ mo O 189 [vr (b + 1)] n M (kI O j n0 Q (pc + 3) L S n)) := by
  have e : kR (mR 189) O j n0 Q (pc + 3) L S n = kI O j n0 Q (pc + 3) L S n := kR_I (Or.inl rfl)
  rw [← e]; exact J_callV (As := []) ce_262 (by rw [hm]) rfl rfl (by decide +kernel) rfl rfl hd
theorem ce_263 : (12, 319, 0, 186, 1813, 0) ∈ calL := by decide +kernel
theorem c_263 {O : pO} {j n0 : Nat} {Q : pQ} {pc : Nat} {L : pL} {S : List pv} {n : Nat} {M : pM} {b : Nat} (hm : mO j = 12) (hd : decode (mB j) pc = .ok (.invokevirtual 319, 3)) : J O j n0 Q pc L (vr (b + 1) :: S) n M = (ob n b = 12 ∧ stk S ≤ 8 ∧ mo O 186 [vr (b + 1)] n M (kV O j n0 Q (pc + 3) L S n)) := by
  have e : kR (mR 186) O j n0 Q (pc + 3) L S n = kV O j n0 Q (pc + 3) L S n := kR_V
  rw [← e]; exact J_callV (As := []) ce_263 (by rw [hm]) rfl rfl (by decide +kernel) rfl rfl hd
theorem ce_264 : (12, 107, 0, 180, 1817, 0) ∈ calL := by decide +kernel
theorem c_264 {O : pO} {j n0 : Nat} {Q : pQ} {pc : Nat} {L : pL} {S : List pv} {n : Nat} {M : pM} {b : Nat} (hm : mO j = 12) (hd : decode (mB j) pc = .ok (.invokevirtual 107, 3)) : J O j n0 Q pc L (vr (b + 1) :: S) n M = (ob n b = 12 ∧ stk S ≤ 8 ∧ mo O 180 [vr (b + 1)] n M (kV O j n0 Q (pc + 3) L S n)) := by
  have e : kR (mR 180) O j n0 Q (pc + 3) L S n = kV O j n0 Q (pc + 3) L S n := kR_V
  rw [← e]; exact J_callV (As := []) ce_264 (by rw [hm]) rfl rfl (by decide +kernel) rfl rfl hd
theorem ce_265 : (12, 71, 0, 173, 1821, 0) ∈ calL := by decide +kernel
theorem c_265 {O : pO} {j n0 : Nat} {Q : pQ} {pc : Nat} {L : pL} {S : List pv} {n : Nat} {M : pM} {b : Nat} {v1 : pv} (hm : mO j = 12) (hd : decode (mB j) pc = .ok (.invokevirtual 71, 3)) : J O j n0 Q pc L (v1 :: vr (b + 1) :: S) n M = (ob n b = 12 ∧ stk S ≤ 8 ∧ mo O 173 [vr (b + 1), v1] n M (kI O j n0 Q (pc + 3) L S n)) := by
  have e : kR (mR 173) O j n0 Q (pc + 3) L S n = kI O j n0 Q (pc + 3) L S n := kR_I (Or.inl rfl)
  rw [← e]; exact J_callV (As := [v1]) ce_265 (by rw [hm]) rfl rfl (by decide +kernel) rfl rfl hd
theorem ce_266 : (12, 78, 1, 174, 1825, 0) ∈ calL := by decide +kernel
theorem c_266 {O : pO} {j n0 : Nat} {Q : pQ} {pc : Nat} {L : pL} {S : List pv} {n : Nat} {M : pM} {v1 : pv} (hm : mO j = 12) (hd : decode (mB j) pc = .ok (.invokestatic 78, 3)) : J O j n0 Q pc L (v1 :: S) n M = (stk S ≤ 8 ∧ mo O 174 [v1] n M (kI O j n0 Q (pc + 3) L S n)) := by
  have e : kR (mR 174) O j n0 Q (pc + 3) L S n = kI O j n0 Q (pc + 3) L S n := kR_I (Or.inr (Or.inl rfl))
  rw [← e]; exact J_callS (As := [v1]) ce_266 (by rw [hm]) rfl rfl (by decide +kernel) rfl rfl hd
theorem ce_267 : (12, 86, 1, 178, 1828, 0) ∈ calL := by decide +kernel
theorem c_267 {O : pO} {j n0 : Nat} {Q : pQ} {pc : Nat} {L : pL} {S : List pv} {n : Nat} {M : pM} {v1 : pv} (hm : mO j = 12) (hd : decode (mB j) pc = .ok (.invokestatic 86, 3)) : J O j n0 Q pc L (v1 :: S) n M = (stk S ≤ 8 ∧ mo O 178 [v1] n M (kI O j n0 Q (pc + 3) L S n)) := by
  have e : kR (mR 178) O j n0 Q (pc + 3) L S n = kI O j n0 Q (pc + 3) L S n := kR_I (Or.inr (Or.inl rfl))
  rw [← e]; exact J_callS (As := [v1]) ce_267 (by rw [hm]) rfl rfl (by decide +kernel) rfl rfl hd
theorem ce_268 : (12, 90, 1, 175, 1855, 0) ∈ calL := by decide +kernel
theorem c_268 {O : pO} {j n0 : Nat} {Q : pQ} {pc : Nat} {L : pL} {S : List pv} {n : Nat} {M : pM} {v1 : pv} (hm : mO j = 12) (hd : decode (mB j) pc = .ok (.invokestatic 90, 3)) : J O j n0 Q pc L (v1 :: S) n M = (stk S ≤ 8 ∧ mo O 175 [v1] n M (kI O j n0 Q (pc + 3) L S n)) := by
  have e : kR (mR 175) O j n0 Q (pc + 3) L S n = kI O j n0 Q (pc + 3) L S n := kR_I (Or.inr (Or.inl rfl))
  rw [← e]; exact J_callS (As := [v1]) ce_268 (by rw [hm]) rfl rfl (by decide +kernel) rfl rfl hd
theorem ce_269 : (12, 96, 1, 179, 1858, 0) ∈ calL := by decide +kernel
theorem c_269 {O : pO} {j n0 : Nat} {Q : pQ} {pc : Nat} {L : pL} {S : List pv} {n : Nat} {M : pM} {v1 : pv} (hm : mO j = 12) (hd : decode (mB j) pc = .ok (.invokestatic 96, 3)) : J O j n0 Q pc L (v1 :: S) n M = (stk S ≤ 8 ∧ mo O 179 [v1] n M (kI O j n0 Q (pc + 3) L S n)) := by
  have e : kR (mR 179) O j n0 Q (pc + 3) L S n = kI O j n0 Q (pc + 3) L S n := kR_I (Or.inr (Or.inl rfl))
  rw [← e]; exact J_callS (As := [v1]) ce_269 (by rw [hm]) rfl rfl (by decide +kernel) rfl rfl hd
theorem ce_270 : (12, 103, 0, 177, 1861, 0) ∈ calL := by decide +kernel
theorem c_270 {O : pO} {j n0 : Nat} {Q : pQ} {pc : Nat} {L : pL} {S : List pv} {n : Nat} {M : pM} {b : Nat} (hm : mO j = 12) (hd : decode (mB j) pc = .ok (.invokevirtual 103, 3)) : J O j n0 Q pc L (vr (b + 1) :: S) n M = (ob n b = 12 ∧ stk S ≤ 8 ∧ mo O 177 [vr (b + 1)] n M (kI O j n0 Q (pc + 3) L S n)) := by
  have e : kR (mR 177) O j n0 Q (pc + 3) L S n = kI O j n0 Q (pc + 3) L S n := kR_I (Or.inr (Or.inl rfl))
  rw [← e]; exact J_callV (As := []) ce_270 (by rw [hm]) rfl rfl (by decide +kernel) rfl rfl hd
theorem ce_271 : (12, 325, 0, 190, 1865, 0) ∈ calL := by decide +kernel
theorem c_271 {O : pO} {j n0 : Nat} {Q : pQ} {pc : Nat} {L : pL} {S : List pv} {n : Nat} {M : pM} {b : Nat} (hm : mO j = 12) (hd : decode (mB j) pc = .ok (.invokevirtual 325, 3)) : J O j n0 Q pc L (vr (b + 1) :: S) n M = (ob n b = 12 ∧ stk S ≤ 8 ∧ mo O 190 [vr (b + 1)] n M (kV O j n0 Q (pc + 3) L S n)) := by
  have e : kR (mR 190) O j n0 Q (pc + 3) L S n = kV O j n0 Q (pc + 3) L S n := kR_V
  rw [← e]; exact J_callV (As := []) ce_271 (by rw [hm]) rfl rfl (by decide +kernel) rfl rfl hd
theorem ce_272 : (12, 337, 0, 182, 1869, 0) ∈ calL := by decide +kernel
theorem c_272 {O : pO} {j n0 : Nat} {Q : pQ} {pc : Nat} {L : pL} {S : List pv} {n : Nat} {M : pM} {b : Nat} {v1 : pv} (hm : mO j = 12) (hd : decode (mB j) pc = .ok (.invokevirtual 337, 3)) : J O j n0 Q pc L (v1 :: vr (b + 1) :: S) n M = (ob n b = 12 ∧ stk S ≤ 8 ∧ mo O 182 [vr (b + 1), v1] n M (kI O j n0 Q (pc + 3) L S n)) := by
  have e : kR (mR 182) O j n0 Q (pc + 3) L S n = kI O j n0 Q (pc + 3) L S n := kR_I (Or.inr (Or.inl rfl))
  rw [← e]; exact J_callV (As := [v1]) ce_272 (by rw [hm]) rfl rfl (by decide +kernel) rfl rfl hd
theorem ce_273 : (12, 111, 0, 183, 1873, 0) ∈ calL := by decide +kernel
theorem c_273 {O : pO} {j n0 : Nat} {Q : pQ} {pc : Nat} {L : pL} {S : List pv} {n : Nat} {M : pM} {b : Nat} (hm : mO j = 12) (hd : decode (mB j) pc = .ok (.invokevirtual 111, 3)) : J O j n0 Q pc L (vr (b + 1) :: S) n M = (ob n b = 12 ∧ stk S ≤ 8 ∧ mo O 183 [vr (b + 1)] n M (kV O j n0 Q (pc + 3) L S n)) := by
  have e : kR (mR 183) O j n0 Q (pc + 3) L S n = kV O j n0 Q (pc + 3) L S n := kR_V
  rw [← e]; exact J_callV (As := []) ce_273 (by rw [hm]) rfl rfl (by decide +kernel) rfl rfl hd
theorem ce_274 : (12, 99, 0, 176, 1877, 0) ∈ calL := by decide +kernel
theorem c_274 {O : pO} {j n0 : Nat} {Q : pQ} {pc : Nat} {L : pL} {S : List pv} {n : Nat} {M : pM} {b : Nat} {v1 v2 : pv} (hm : mO j = 12) (hd : decode (mB j) pc = .ok (.invokevirtual 99, 3)) : J O j n0 Q pc L (v2 :: v1 :: vr (b + 1) :: S) n M = (ob n b = 12 ∧ stk S ≤ 8 ∧ mo O 176 [vr (b + 1), v1, v2] n M (kV O j n0 Q (pc + 3) L S n)) := by
  have e : kR (mR 176) O j n0 Q (pc + 3) L S n = kV O j n0 Q (pc + 3) L S n := kR_V
  rw [← e]; exact J_callV (As := [v1, v2]) ce_274 (by rw [hm]) rfl rfl (by decide +kernel) rfl rfl hd
theorem ce_275 : (12, 340, 0, 200, 1881, 0) ∈ calL := by decide +kernel
theorem c_275 {O : pO} {j n0 : Nat} {Q : pQ} {pc : Nat} {L : pL} {S : List pv} {n : Nat} {M : pM} {b : Nat} (hm : mO j = 12) (hd : decode (mB j) pc = .ok (.invokevirtual 340, 3)) : J O j n0 Q pc L (vr (b + 1) :: S) n M = (ob n b = 12 ∧ stk S ≤ 8 ∧ mo O 200 [vr (b + 1)] n M (kV O j n0 Q (pc + 3) L S n)) := by
  have e : kR (mR 200) O j n0 Q (pc + 3) L S n = kV O j n0 Q (pc + 3) L S n := kR_V
  rw [← e]; exact J_callV (As := []) ce_275 (by rw [hm]) rfl rfl (by decide +kernel) rfl rfl hd
theorem ce_276 : (12, 389, 0, 199, 1885, 0) ∈ calL := by decide +kernel
theorem c_276 {O : pO} {j n0 : Nat} {Q : pQ} {pc : Nat} {L : pL} {S : List pv} {n : Nat} {M : pM} {b : Nat} (hm : mO j = 12) (hd : decode (mB j) pc = .ok (.invokevirtual 389, 3)) : J O j n0 Q pc L (vr (b + 1) :: S) n M = (ob n b = 12 ∧ stk S ≤ 8 ∧ mo O 199 [vr (b + 1)] n M (kI O j n0 Q (pc + 3) L S n)) := by
  have e : kR (mR 199) O j n0 Q (pc + 3) L S n = kI O j n0 Q (pc + 3) L S n := kR_I (Or.inl rfl)
  rw [← e]; exact J_callV (As := []) ce_276 (by rw [hm]) rfl rfl (by decide +kernel) rfl rfl hd
theorem ce_277 : (12, 371, 0, 185, 1889, 0) ∈ calL := by decide +kernel
theorem c_277 {O : pO} {j n0 : Nat} {Q : pQ} {pc : Nat} {L : pL} {S : List pv} {n : Nat} {M : pM} {b : Nat} {v1 v2 : pv} (hm : mO j = 12) (hd : decode (mB j) pc = .ok (.invokevirtual 371, 3)) : J O j n0 Q pc L (v2 :: v1 :: vr (b + 1) :: S) n M = (ob n b = 12 ∧ stk S ≤ 8 ∧ mo O 185 [vr (b + 1), v1, v2] n M (kI O j n0 Q (pc + 3) L S n)) := by
  have e : kR (mR 185) O j n0 Q (pc + 3) L S n = kI O j n0 Q (pc + 3) L S n := kR_I (Or.inl rfl)
  rw [← e]; exact J_callV (As := [v1, v2]) ce_277 (by rw [hm]) rfl rfl (by decide +kernel) rfl rfl hd
theorem ce_278 : (12, 367, 0, 184, 1893, 0) ∈ calL := by decide +kernel
theorem c_278 {O : pO} {j n0 : Nat} {Q : pQ} {pc : Nat} {L : pL} {S : List pv} {n : Nat} {M : pM} {b : Nat} {v1 : pv} (hm : mO j = 12) (hd : decode (mB j) pc = .ok (.invokevirtual 367, 3)) : J O j n0 Q pc L (v1 :: vr (b + 1) :: S) n M = (ob n b = 12 ∧ stk S ≤ 8 ∧ mo O 184 [vr (b + 1), v1] n M (kV O j n0 Q (pc + 3) L S n)) := by
  have e : kR (mR 184) O j n0 Q (pc + 3) L S n = kV O j n0 Q (pc + 3) L S n := kR_V
  rw [← e]; exact J_callV (As := [v1]) ce_278 (by rw [hm]) rfl rfl (by decide +kernel) rfl rfl hd
theorem ce_279 : (12, 343, 0, 202, 1897, 0) ∈ calL := by decide +kernel
theorem c_279 {O : pO} {j n0 : Nat} {Q : pQ} {pc : Nat} {L : pL} {S : List pv} {n : Nat} {M : pM} {b : Nat} (hm : mO j = 12) (hd : decode (mB j) pc = .ok (.invokevirtual 343, 3)) : J O j n0 Q pc L (vr (b + 1) :: S) n M = (ob n b = 12 ∧ stk S ≤ 8 ∧ mo O 202 [vr (b + 1)] n M (kV O j n0 Q (pc + 3) L S n)) := by
  have e : kR (mR 202) O j n0 Q (pc + 3) L S n = kV O j n0 Q (pc + 3) L S n := kR_V
  rw [← e]; exact J_callV (As := []) ce_279 (by rw [hm]) rfl rfl (by decide +kernel) rfl rfl hd
theorem ce_280 : (12, 346, 0, 203, 1901, 0) ∈ calL := by decide +kernel
theorem c_280 {O : pO} {j n0 : Nat} {Q : pQ} {pc : Nat} {L : pL} {S : List pv} {n : Nat} {M : pM} {b : Nat} (hm : mO j = 12) (hd : decode (mB j) pc = .ok (.invokevirtual 346, 3)) : J O j n0 Q pc L (vr (b + 1) :: S) n M = (ob n b = 12 ∧ stk S ≤ 8 ∧ mo O 203 [vr (b + 1)] n M (kV O j n0 Q (pc + 3) L S n)) := by
  have e : kR (mR 203) O j n0 Q (pc + 3) L S n = kV O j n0 Q (pc + 3) L S n := kR_V
  rw [← e]; exact J_callV (As := []) ce_280 (by rw [hm]) rfl rfl (by decide +kernel) rfl rfl hd
theorem ce_281 : (12, 349, 0, 194, 1905, 0) ∈ calL := by decide +kernel
theorem c_281 {O : pO} {j n0 : Nat} {Q : pQ} {pc : Nat} {L : pL} {S : List pv} {n : Nat} {M : pM} {b : Nat} (hm : mO j = 12) (hd : decode (mB j) pc = .ok (.invokevirtual 349, 3)) : J O j n0 Q pc L (vr (b + 1) :: S) n M = (ob n b = 12 ∧ stk S ≤ 8 ∧ mo O 194 [vr (b + 1)] n M (kV O j n0 Q (pc + 3) L S n)) := by
  have e : kR (mR 194) O j n0 Q (pc + 3) L S n = kV O j n0 Q (pc + 3) L S n := kR_V
  rw [← e]; exact J_callV (As := []) ce_281 (by rw [hm]) rfl rfl (by decide +kernel) rfl rfl hd
theorem ce_282 : (12, 378, 0, 191, 1909, 0) ∈ calL := by decide +kernel
theorem c_282 {O : pO} {j n0 : Nat} {Q : pQ} {pc : Nat} {L : pL} {S : List pv} {n : Nat} {M : pM} {b : Nat} {v1 v2 : pv} (hm : mO j = 12) (hd : decode (mB j) pc = .ok (.invokevirtual 378, 3)) : J O j n0 Q pc L (v2 :: v1 :: vr (b + 1) :: S) n M = (ob n b = 12 ∧ stk S ≤ 8 ∧ mo O 191 [vr (b + 1), v1, v2] n M (kI O j n0 Q (pc + 3) L S n)) := by
  have e : kR (mR 191) O j n0 Q (pc + 3) L S n = kI O j n0 Q (pc + 3) L S n := kR_I (Or.inl rfl)
  rw [← e]; exact J_callV (As := [v1, v2]) ce_282 (by rw [hm]) rfl rfl (by decide +kernel) rfl rfl hd
theorem ce_283 : (12, 382, 0, 193, 1913, 0) ∈ calL := by decide +kernel
theorem c_283 {O : pO} {j n0 : Nat} {Q : pQ} {pc : Nat} {L : pL} {S : List pv} {n : Nat} {M : pM} {b : Nat} {v1 : pv} (hm : mO j = 12) (hd : decode (mB j) pc = .ok (.invokevirtual 382, 3)) : J O j n0 Q pc L (v1 :: vr (b + 1) :: S) n M = (ob n b = 12 ∧ stk S ≤ 8 ∧ mo O 193 [vr (b + 1), v1] n M (kI O j n0 Q (pc + 3) L S n)) := by
  have e : kR (mR 193) O j n0 Q (pc + 3) L S n = kI O j n0 Q (pc + 3) L S n := kR_I (Or.inr (Or.inl rfl))
  rw [← e]; exact J_callV (As := [v1]) ce_283 (by rw [hm]) rfl rfl (by decide +kernel) rfl rfl hd
theorem ce_284 : (12, 375, 0, 192, 1917, 0) ∈ calL := by decide +kernel
theorem c_284 {O : pO} {j n0 : Nat} {Q : pQ} {pc : Nat} {L : pL} {S : List pv} {n : Nat} {M : pM} {b : Nat} {v1 : pv} (hm : mO j = 12) (hd : decode (mB j) pc = .ok (.invokevirtual 375, 3)) : J O j n0 Q pc L (v1 :: vr (b + 1) :: S) n M = (ob n b = 12 ∧ stk S ≤ 8 ∧ mo O 192 [vr (b + 1), v1] n M (kI O j n0 Q (pc + 3) L S n)) := by
  have e : kR (mR 192) O j n0 Q (pc + 3) L S n = kI O j n0 Q (pc + 3) L S n := kR_I (Or.inr (Or.inl rfl))
  rw [← e]; exact J_callV (As := [v1]) ce_284 (by rw [hm]) rfl rfl (by decide +kernel) rfl rfl hd
theorem ce_285 : (12, 352, 0, 195, 1921, 0) ∈ calL := by decide +kernel
theorem c_285 {O : pO} {j n0 : Nat} {Q : pQ} {pc : Nat} {L : pL} {S : List pv} {n : Nat} {M : pM} {b : Nat} (hm : mO j = 12) (hd : decode (mB j) pc = .ok (.invokevirtual 352, 3)) : J O j n0 Q pc L (vr (b + 1) :: S) n M = (ob n b = 12 ∧ stk S ≤ 8 ∧ mo O 195 [vr (b + 1)] n M (kV O j n0 Q (pc + 3) L S n)) := by
  have e : kR (mR 195) O j n0 Q (pc + 3) L S n = kV O j n0 Q (pc + 3) L S n := kR_V
  rw [← e]; exact J_callV (As := []) ce_285 (by rw [hm]) rfl rfl (by decide +kernel) rfl rfl hd
theorem ce_286 : (12, 355, 0, 197, 1925, 0) ∈ calL := by decide +kernel
theorem c_286 {O : pO} {j n0 : Nat} {Q : pQ} {pc : Nat} {L : pL} {S : List pv} {n : Nat} {M : pM} {b : Nat} (hm : mO j = 12) (hd : decode (mB j) pc = .ok (.invokevirtual 355, 3)) : J O j n0 Q pc L (vr (b + 1) :: S) n M = (ob n b = 12 ∧ stk S ≤ 8 ∧ mo O 197 [vr (b + 1)] n M (kV O j n0 Q (pc + 3) L S n)) := by
  have e : kR (mR 197) O j n0 Q (pc + 3) L S n = kV O j n0 Q (pc + 3) L S n := kR_V
  rw [← e]; exact J_callV (As := []) ce_286 (by rw [hm]) rfl rfl (by decide +kernel) rfl rfl hd
theorem ce_287 : (12, 385, 0, 196, 1929, 0) ∈ calL := by decide +kernel
theorem c_287 {O : pO} {j n0 : Nat} {Q : pQ} {pc : Nat} {L : pL} {S : List pv} {n : Nat} {M : pM} {b : Nat} {v1 : pv} (hm : mO j = 12) (hd : decode (mB j) pc = .ok (.invokevirtual 385, 3)) : J O j n0 Q pc L (v1 :: vr (b + 1) :: S) n M = (ob n b = 12 ∧ stk S ≤ 8 ∧ mo O 196 [vr (b + 1), v1] n M (kI O j n0 Q (pc + 3) L S n)) := by
  have e : kR (mR 196) O j n0 Q (pc + 3) L S n = kI O j n0 Q (pc + 3) L S n := kR_I (Or.inl rfl)
  rw [← e]; exact J_callV (As := [v1]) ce_287 (by rw [hm]) rfl rfl (by decide +kernel) rfl rfl hd
theorem ce_288 : (12, 358, 0, 198, 1933, 0) ∈ calL := by decide +kernel
theorem c_288 {O : pO} {j n0 : Nat} {Q : pQ} {pc : Nat} {L : pL} {S : List pv} {n : Nat} {M : pM} {b : Nat} (hm : mO j = 12) (hd : decode (mB j) pc = .ok (.invokevirtual 358, 3)) : J O j n0 Q pc L (vr (b + 1) :: S) n M = (ob n b = 12 ∧ stk S ≤ 8 ∧ mo O 198 [vr (b + 1)] n M (kV O j n0 Q (pc + 3) L S n)) := by
  have e : kR (mR 198) O j n0 Q (pc + 3) L S n = kV O j n0 Q (pc + 3) L S n := kR_V
  rw [← e]; exact J_callV (As := []) ce_288 (by rw [hm]) rfl rfl (by decide +kernel) rfl rfl hd
theorem ce_289 : (12, 361, 0, 201, 1937, 0) ∈ calL := by decide +kernel
theorem c_289 {O : pO} {j n0 : Nat} {Q : pQ} {pc : Nat} {L : pL} {S : List pv} {n : Nat} {M : pM} {b : Nat} (hm : mO j = 12) (hd : decode (mB j) pc = .ok (.invokevirtual 361, 3)) : J O j n0 Q pc L (vr (b + 1) :: S) n M = (ob n b = 12 ∧ stk S ≤ 8 ∧ mo O 201 [vr (b + 1)] n M (kV O j n0 Q (pc + 3) L S n)) := by
  have e : kR (mR 201) O j n0 Q (pc + 3) L S n = kV O j n0 Q (pc + 3) L S n := kR_V
  rw [← e]; exact J_callV (As := []) ce_289 (by rw [hm]) rfl rfl (by decide +kernel) rfl rfl hd
theorem ce_290 : (12, 364, 0, 181, 1941, 0) ∈ calL := by decide +kernel
theorem c_290 {O : pO} {j n0 : Nat} {Q : pQ} {pc : Nat} {L : pL} {S : List pv} {n : Nat} {M : pM} {b : Nat} {v1 : pv} (hm : mO j = 12) (hd : decode (mB j) pc = .ok (.invokevirtual 364, 3)) : J O j n0 Q pc L (v1 :: vr (b + 1) :: S) n M = (ob n b = 12 ∧ stk S ≤ 8 ∧ mo O 181 [vr (b + 1), v1] n M (kI O j n0 Q (pc + 3) L S n)) := by
  have e : kR (mR 181) O j n0 Q (pc + 3) L S n = kI O j n0 Q (pc + 3) L S n := kR_I (Or.inr (Or.inl rfl))
  rw [← e]; exact J_callV (As := [v1]) ce_290 (by rw [hm]) rfl rfl (by decide +kernel) rfl rfl hd
theorem ce_291 : (13, 35, 0, 204, 1945, 0) ∈ calL := by decide +kernel
theorem c_291 {O : pO} {j n0 : Nat} {Q : pQ} {pc : Nat} {L : pL} {S : List pv} {n : Nat} {M : pM} {b : Nat} {v1 : pv} (hm : mO j = 13) (hd : decode (mB j) pc = .ok (.invokevirtual 35, 3)) : J O j n0 Q pc L (v1 :: vr (b + 1) :: S) n M = (ob n b = 12 ∧ stk S ≤ 8 ∧ mo O 204 [vr (b + 1), v1] n M (kI O j n0 Q (pc + 3) L S n)) := by
  have e : kR (mR 204) O j n0 Q (pc + 3) L S n = kI O j n0 Q (pc + 3) L S n := kR_I (Or.inl rfl)
  rw [← e]; exact J_callV (As := [v1]) ce_291 (by rw [hm]) rfl rfl (by decide +kernel) rfl rfl hd
theorem ce_292 : (13, 40, 0, 208, 1949, 0) ∈ calL := by decide +kernel
theorem c_292 {O : pO} {j n0 : Nat} {Q : pQ} {pc : Nat} {L : pL} {S : List pv} {n : Nat} {M : pM} {b : Nat} {v1 v2 : pv} (hm : mO j = 13) (hd : decode (mB j) pc = .ok (.invokevirtual 40, 3)) : J O j n0 Q pc L (v2 :: v1 :: vr (b + 1) :: S) n M = (ob n b = 12 ∧ stk S ≤ 8 ∧ mo O 208 [vr (b + 1), v1, v2] n M (kI O j n0 Q (pc + 3) L S n)) := by
  have e : kR (mR 208) O j n0 Q (pc + 3) L S n = kI O j n0 Q (pc + 3) L S n := kR_I (Or.inl rfl)
  rw [← e]; exact J_callV (As := [v1, v2]) ce_292 (by rw [hm]) rfl rfl (by decide +kernel) rfl rfl hd
theorem ce_293 : (12, 393, 1, 205, 1953, 0) ∈ calL := by decide +kernel
theorem c_293 {O : pO} {j n0 : Nat} {Q : pQ} {pc : Nat} {L : pL} {S : List pv} {n : Nat} {M : pM} {v1 : pv} (hm : mO j = 12) (hd : decode (mB j) pc = .ok (.invokestatic 393, 3)) : J O j n0 Q pc L (v1 :: S) n M = (stk S ≤ 8 ∧ mo O 205 [v1] n M (kI O j n0 Q (pc + 3) L S n)) := by
  have e : kR (mR 205) O j n0 Q (pc + 3) L S n = kI O j n0 Q (pc + 3) L S n := kR_I (Or.inr (Or.inl rfl))
  rw [← e]; exact J_callS (As := [v1]) ce_293 (by rw [hm]) rfl rfl (by decide +kernel) rfl rfl hd
theorem ce_294 : (12, 396, 1, 206, 1956, 0) ∈ calL := by decide +kernel
theorem c_294 {O : pO} {j n0 : Nat} {Q : pQ} {pc : Nat} {L : pL} {S : List pv} {n : Nat} {M : pM} {v1 : pv} (hm : mO j = 12) (hd : decode (mB j) pc = .ok (.invokestatic 396, 3)) : J O j n0 Q pc L (v1 :: S) n M = (stk S ≤ 8 ∧ mo O 206 [v1] n M (kI O j n0 Q (pc + 3) L S n)) := by
  have e : kR (mR 206) O j n0 Q (pc + 3) L S n = kI O j n0 Q (pc + 3) L S n := kR_I (Or.inr (Or.inl rfl))
  rw [← e]; exact J_callS (As := [v1]) ce_294 (by rw [hm]) rfl rfl (by decide +kernel) rfl rfl hd
theorem ce_295 : (12, 399, 0, 207, 1959, 0) ∈ calL := by decide +kernel
theorem c_295 {O : pO} {j n0 : Nat} {Q : pQ} {pc : Nat} {L : pL} {S : List pv} {n : Nat} {M : pM} {b : Nat} {v1 v2 : pv} (hm : mO j = 12) (hd : decode (mB j) pc = .ok (.invokevirtual 399, 3)) : J O j n0 Q pc L (v2 :: v1 :: vr (b + 1) :: S) n M = (ob n b = 12 ∧ stk S ≤ 8 ∧ mo O 207 [vr (b + 1), v1, v2] n M (kI O j n0 Q (pc + 3) L S n)) := by
  have e : kR (mR 207) O j n0 Q (pc + 3) L S n = kI O j n0 Q (pc + 3) L S n := kR_I (Or.inl rfl)
  rw [← e]; exact J_callV (As := [v1, v2]) ce_295 (by rw [hm]) rfl rfl (by decide +kernel) rfl rfl hd
theorem ce_296 : (13, 44, 0, 213, 1963, 0) ∈ calL := by decide +kernel
theorem c_296 {O : pO} {j n0 : Nat} {Q : pQ} {pc : Nat} {L : pL} {S : List pv} {n : Nat} {M : pM} {b : Nat} {v1 : pv} (hm : mO j = 13) (hd : decode (mB j) pc = .ok (.invokevirtual 44, 3)) : J O j n0 Q pc L (v1 :: vr (b + 1) :: S) n M = (ob n b = 12 ∧ stk S ≤ 8 ∧ mo O 213 [vr (b + 1), v1] n M (kI O j n0 Q (pc + 3) L S n)) := by
  have e : kR (mR 213) O j n0 Q (pc + 3) L S n = kI O j n0 Q (pc + 3) L S n := kR_I (Or.inl rfl)
  rw [← e]; exact J_callV (As := [v1]) ce_296 (by rw [hm]) rfl rfl (by decide +kernel) rfl rfl hd
theorem ce_297 : (12, 406, 0, 211, 1967, 0) ∈ calL := by decide +kernel
theorem c_297 {O : pO} {j n0 : Nat} {Q : pQ} {pc : Nat} {L : pL} {S : List pv} {n : Nat} {M : pM} {b : Nat} {v1 : pv} (hm : mO j = 12) (hd : decode (mB j) pc = .ok (.invokevirtual 406, 3)) : J O j n0 Q pc L (v1 :: vr (b + 1) :: S) n M = (ob n b = 12 ∧ stk S ≤ 8 ∧ mo O 211 [vr (b + 1), v1] n M (kI O j n0 Q (pc + 3) L S n)) := by
  have e : kR (mR 211) O j n0 Q (pc + 3) L S n = kI O j n0 Q (pc + 3) L S n := kR_I (Or.inl rfl)
  rw [← e]; exact J_callV (As := [v1]) ce_297 (by rw [hm]) rfl rfl (by decide +kernel) rfl rfl hd
theorem ce_298 : (12, 402, 0, 209, 1971, 0) ∈ calL := by decide +kernel
theorem c_298 {O : pO} {j n0 : Nat} {Q : pQ} {pc : Nat} {L : pL} {S : List pv} {n : Nat} {M : pM} {b : Nat} {v1 v2 : pv} (hm : mO j = 12) (hd : decode (mB j) pc = .ok (.invokevirtual 402, 3)) : J O j n0 Q pc L (v2 :: v1 :: vr (b + 1) :: S) n M = (ob n b = 12 ∧ stk S ≤ 8 ∧ mo O 209 [vr (b + 1), v1, v2] n M (kI O j n0 Q (pc + 3) L S n)) := by
  have e : kR (mR 209) O j n0 Q (pc + 3) L S n = kI O j n0 Q (pc + 3) L S n := kR_I (Or.inl rfl)
  rw [← e]; exact J_callV (As := [v1, v2]) ce_298 (by rw [hm]) rfl rfl (by decide +kernel) rfl rfl hd
theorem ce_299 : (12, 409, 0, 210, 1975, 0) ∈ calL := by decide +kernel
theorem c_299 {O : pO} {j n0 : Nat} {Q : pQ} {pc : Nat} {L : pL} {S : List pv} {n : Nat} {M : pM} {b : Nat} {v1 : pv} (hm : mO j = 12) (hd : decode (mB j) pc = .ok (.invokevirtual 409, 3)) : J O j n0 Q pc L (v1 :: vr (b + 1) :: S) n M = (ob n b = 12 ∧ stk S ≤ 8 ∧ mo O 210 [vr (b + 1), v1] n M (kI O j n0 Q (pc + 3) L S n)) := by
  have e : kR (mR 210) O j n0 Q (pc + 3) L S n = kI O j n0 Q (pc + 3) L S n := kR_I (Or.inl rfl)
  rw [← e]; exact J_callV (As := [v1]) ce_299 (by rw [hm]) rfl rfl (by decide +kernel) rfl rfl hd
theorem ce_300 : (13, 48, 0, 214, 1979, 0) ∈ calL := by decide +kernel
theorem c_300 {O : pO} {j n0 : Nat} {Q : pQ} {pc : Nat} {L : pL} {S : List pv} {n : Nat} {M : pM} {b : Nat} {v1 : pv} (hm : mO j = 13) (hd : decode (mB j) pc = .ok (.invokevirtual 48, 3)) : J O j n0 Q pc L (v1 :: vr (b + 1) :: S) n M = (ob n b = 12 ∧ stk S ≤ 8 ∧ mo O 214 [vr (b + 1), v1] n M (kI O j n0 Q (pc + 3) L S n)) := by
  have e : kR (mR 214) O j n0 Q (pc + 3) L S n = kI O j n0 Q (pc + 3) L S n := kR_I (Or.inl rfl)
  rw [← e]; exact J_callV (As := [v1]) ce_300 (by rw [hm]) rfl rfl (by decide +kernel) rfl rfl hd
theorem ce_301 : (12, 412, 0, 212, 1983, 0) ∈ calL := by decide +kernel
theorem c_301 {O : pO} {j n0 : Nat} {Q : pQ} {pc : Nat} {L : pL} {S : List pv} {n : Nat} {M : pM} {b : Nat} {v1 : pv} (hm : mO j = 12) (hd : decode (mB j) pc = .ok (.invokevirtual 412, 3)) : J O j n0 Q pc L (v1 :: vr (b + 1) :: S) n M = (ob n b = 12 ∧ stk S ≤ 8 ∧ mo O 212 [vr (b + 1), v1] n M (kI O j n0 Q (pc + 3) L S n)) := by
  have e : kR (mR 212) O j n0 Q (pc + 3) L S n = kI O j n0 Q (pc + 3) L S n := kR_I (Or.inl rfl)
  rw [← e]; exact J_callV (As := [v1]) ce_301 (by rw [hm]) rfl rfl (by decide +kernel) rfl rfl hd
theorem ce_302 : (13, 53, 0, 218, 1987, 0) ∈ calL := by decide +kernel
theorem c_302 {O : pO} {j n0 : Nat} {Q : pQ} {pc : Nat} {L : pL} {S : List pv} {n : Nat} {M : pM} {b : Nat} {v1 v2 v3 : pv} (hm : mO j = 13) (hd : decode (mB j) pc = .ok (.invokevirtual 53, 3)) : J O j n0 Q pc L (v3 :: v2 :: v1 :: vr (b + 1) :: S) n M = (ob n b = 12 ∧ stk S ≤ 8 ∧ mo O 218 [vr (b + 1), v1, v2, v3] n M (kI O j n0 Q (pc + 3) L S n)) := by
  have e : kR (mR 218) O j n0 Q (pc + 3) L S n = kI O j n0 Q (pc + 3) L S n := kR_I (Or.inl rfl)
  rw [← e]; exact J_callV (As := [v1, v2, v3]) ce_302 (by rw [hm]) rfl rfl (by decide +kernel) rfl rfl hd
theorem ce_303 : (12, 415, 1, 216, 1991, 0) ∈ calL := by decide +kernel
theorem c_303 {O : pO} {j n0 : Nat} {Q : pQ} {pc : Nat} {L : pL} {S : List pv} {n : Nat} {M : pM} {v1 : pv} (hm : mO j = 12) (hd : decode (mB j) pc = .ok (.invokestatic 415, 3)) : J O j n0 Q pc L (v1 :: S) n M = (stk S ≤ 8 ∧ mo O 216 [v1] n M (kI O j n0 Q (pc + 3) L S n)) := by
  have e : kR (mR 216) O j n0 Q (pc + 3) L S n = kI O j n0 Q (pc + 3) L S n := kR_I (Or.inr (Or.inl rfl))
  rw [← e]; exact J_callS (As := [v1]) ce_303 (by rw [hm]) rfl rfl (by decide +kernel) rfl rfl hd
theorem ce_304 : (12, 418, 1, 217, 1994, 0) ∈ calL := by decide +kernel
theorem c_304 {O : pO} {j n0 : Nat} {Q : pQ} {pc : Nat} {L : pL} {S : List pv} {n : Nat} {M : pM} {v1 : pv} (hm : mO j = 12) (hd : decode (mB j) pc = .ok (.invokestatic 418, 3)) : J O j n0 Q pc L (v1 :: S) n M = (stk S ≤ 8 ∧ mo O 217 [v1] n M (kI O j n0 Q (pc + 3) L S n)) := by
  have e : kR (mR 217) O j n0 Q (pc + 3) L S n = kI O j n0 Q (pc + 3) L S n := kR_I (Or.inr (Or.inl rfl))
  rw [← e]; exact J_callS (As := [v1]) ce_304 (by rw [hm]) rfl rfl (by decide +kernel) rfl rfl hd
theorem ce_305 : (12, 421, 0, 215, 1997, 0) ∈ calL := by decide +kernel
theorem c_305 {O : pO} {j n0 : Nat} {Q : pQ} {pc : Nat} {L : pL} {S : List pv} {n : Nat} {M : pM} {b : Nat} {v1 v2 v3 : pv} (hm : mO j = 12) (hd : decode (mB j) pc = .ok (.invokevirtual 421, 3)) : J O j n0 Q pc L (v3 :: v2 :: v1 :: vr (b + 1) :: S) n M = (ob n b = 12 ∧ stk S ≤ 8 ∧ mo O 215 [vr (b + 1), v1, v2, v3] n M (kI O j n0 Q (pc + 3) L S n)) := by
  have e : kR (mR 215) O j n0 Q (pc + 3) L S n = kI O j n0 Q (pc + 3) L S n := kR_I (Or.inr (Or.inl rfl))
  rw [← e]; exact J_callV (As := [v1, v2, v3]) ce_305 (by rw [hm]) rfl rfl (by decide +kernel) rfl rfl hd
theorem ce_306 : (13, 57, 0, 224, 2001, 0) ∈ calL := by decide +kernel
theorem c_306 {O : pO} {j n0 : Nat} {Q : pQ} {pc : Nat} {L : pL} {S : List pv} {n : Nat} {M : pM} {b : Nat} {v1 v2 v3 v4 v5 : pv} (hm : mO j = 13) (hd : decode (mB j) pc = .ok (.invokevirtual 57, 3)) : J O j n0 Q pc L (v5 :: v4 :: v3 :: v2 :: v1 :: vr (b + 1) :: S) n M = (ob n b = 12 ∧ stk S ≤ 8 ∧ mo O 224 [vr (b + 1), v1, v2, v3, v4, v5] n M (kI O j n0 Q (pc + 3) L S n)) := by
  have e : kR (mR 224) O j n0 Q (pc + 3) L S n = kI O j n0 Q (pc + 3) L S n := kR_I (Or.inl rfl)
  rw [← e]; exact J_callV (As := [v1, v2, v3, v4, v5]) ce_306 (by rw [hm]) rfl rfl (by decide +kernel) rfl rfl hd
theorem ce_307 : (12, 443, 0, 223, 2005, 0) ∈ calL := by decide +kernel
theorem c_307 {O : pO} {j n0 : Nat} {Q : pQ} {pc : Nat} {L : pL} {S : List pv} {n : Nat} {M : pM} {b : Nat} {v1 v2 v3 v4 : pv} (hm : mO j = 12) (hd : decode (mB j) pc = .ok (.invokevirtual 443, 3)) : J O j n0 Q pc L (v4 :: v3 :: v2 :: v1 :: vr (b + 1) :: S) n M = (ob n b = 12 ∧ stk S ≤ 8 ∧ mo O 223 [vr (b + 1), v1, v2, v3, v4] n M (kI O j n0 Q (pc + 3) L S n)) := by
  have e : kR (mR 223) O j n0 Q (pc + 3) L S n = kI O j n0 Q (pc + 3) L S n := kR_I (Or.inr (Or.inl rfl))
  rw [← e]; exact J_callV (As := [v1, v2, v3, v4]) ce_307 (by rw [hm]) rfl rfl (by decide +kernel) rfl rfl hd
theorem ce_308 : (12, 440, 0, 219, 2009, 0) ∈ calL := by decide +kernel
theorem c_308 {O : pO} {j n0 : Nat} {Q : pQ} {pc : Nat} {L : pL} {S : List pv} {n : Nat} {M : pM} {b : Nat} {v1 : pv} (hm : mO j = 12) (hd : decode (mB j) pc = .ok (.invokevirtual 440, 3)) : J O j n0 Q pc L (v1 :: vr (b + 1) :: S) n M = (ob n b = 12 ∧ stk S ≤ 8 ∧ mo O 219 [vr (b + 1), v1] n M (kI O j n0 Q (pc + 3) L S n)) := by
  have e : kR (mR 219) O j n0 Q (pc + 3) L S n = kI O j n0 Q (pc + 3) L S n := kR_I (Or.inr (Or.inl rfl))
  rw [← e]; exact J_callV (As := [v1]) ce_308 (by rw [hm]) rfl rfl (by decide +kernel) rfl rfl hd
theorem ce_309 : (12, 447, 0, 222, 2013, 0) ∈ calL := by decide +kernel
theorem c_309 {O : pO} {j n0 : Nat} {Q : pQ} {pc : Nat} {L : pL} {S : List pv} {n : Nat} {M : pM} {b : Nat} {v1 v2 v3 v4 v5 : pv} (hm : mO j = 12) (hd : decode (mB j) pc = .ok (.invokevirtual 447, 3)) : J O j n0 Q pc L (v5 :: v4 :: v3 :: v2 :: v1 :: vr (b + 1) :: S) n M = (ob n b = 12 ∧ stk S ≤ 8 ∧ mo O 222 [vr (b + 1), v1, v2, v3, v4, v5] n M (kI O j n0 Q (pc + 3) L S n)) := by
  have e : kR (mR 222) O j n0 Q (pc + 3) L S n = kI O j n0 Q (pc + 3) L S n := kR_I (Or.inr (Or.inl rfl))
  rw [← e]; exact J_callV (As := [v1, v2, v3, v4, v5]) ce_309 (by rw [hm]) rfl rfl (by decide +kernel) rfl rfl hd
theorem ce_310 : (12, 434, 1, 220, 2017, 0) ∈ calL := by decide +kernel
theorem c_310 {O : pO} {j n0 : Nat} {Q : pQ} {pc : Nat} {L : pL} {S : List pv} {n : Nat} {M : pM} {v1 : pv} (hm : mO j = 12) (hd : decode (mB j) pc = .ok (.invokestatic 434, 3)) : J O j n0 Q pc L (v1 :: S) n M = (stk S ≤ 8 ∧ mo O 220 [v1] n M (kI O j n0 Q (pc + 3) L S n)) := by
  have e : kR (mR 220) O j n0 Q (pc + 3) L S n = kI O j n0 Q (pc + 3) L S n := kR_I (Or.inl rfl)
  rw [← e]; exact J_callS (As := [v1]) ce_310 (by rw [hm]) rfl rfl (by decide +kernel) rfl rfl hd
theorem ce_311 : (12, 437, 1, 221, 2020, 0) ∈ calL := by decide +kernel
theorem c_311 {O : pO} {j n0 : Nat} {Q : pQ} {pc : Nat} {L : pL} {S : List pv} {n : Nat} {M : pM} {v1 : pv} (hm : mO j = 12) (hd : decode (mB j) pc = .ok (.invokestatic 437, 3)) : J O j n0 Q pc L (v1 :: S) n M = (stk S ≤ 8 ∧ mo O 221 [v1] n M (kI O j n0 Q (pc + 3) L S n)) := by
  have e : kR (mR 221) O j n0 Q (pc + 3) L S n = kI O j n0 Q (pc + 3) L S n := kR_I (Or.inl rfl)
  rw [← e]; exact J_callS (As := [v1]) ce_311 (by rw [hm]) rfl rfl (by decide +kernel) rfl rfl hd
theorem ce_312 : (13, 62, 0, 225, 2023, 0) ∈ calL := by decide +kernel
theorem c_312 {O : pO} {j n0 : Nat} {Q : pQ} {pc : Nat} {L : pL} {S : List pv} {n : Nat} {M : pM} {b : Nat} {v1 v2 v3 v4 : pv} (hm : mO j = 13) (hd : decode (mB j) pc = .ok (.invokevirtual 62, 3)) : J O j n0 Q pc L (v4 :: v3 :: v2 :: v1 :: vr (b + 1) :: S) n M = (ob n b = 12 ∧ stk S ≤ 8 ∧ mo O 225 [vr (b + 1), v1, v2, v3, v4] n M (kI O j n0 Q (pc + 3) L S n)) := by
  have e : kR (mR 225) O j n0 Q (pc + 3) L S n = kI O j n0 Q (pc + 3) L S n := kR_I (Or.inr (Or.inl rfl))
  rw [← e]; exact J_callV (As := [v1, v2, v3, v4]) ce_312 (by rw [hm]) rfl rfl (by decide +kernel) rfl rfl hd
theorem ce_313 : (12, 454, 0, 226, 2027, 0) ∈ calL := by decide +kernel
theorem c_313 {O : pO} {j n0 : Nat} {Q : pQ} {pc : Nat} {L : pL} {S : List pv} {n : Nat} {M : pM} {b : Nat} {v1 : pv} (hm : mO j = 12) (hd : decode (mB j) pc = .ok (.invokevirtual 454, 3)) : J O j n0 Q pc L (v1 :: vr (b + 1) :: S) n M = (ob n b = 12 ∧ stk S ≤ 8 ∧ mo O 226 [vr (b + 1), v1] n M (kV O j n0 Q (pc + 3) L S n)) := by
  have e : kR (mR 226) O j n0 Q (pc + 3) L S n = kV O j n0 Q (pc + 3) L S n := kR_V
  rw [← e]; exact J_callV (As := [v1]) ce_313 (by rw [hm]) rfl rfl (by decide +kernel) rfl rfl hd
theorem ce_314 : (13, 66, 0, 233, 2031, 0) ∈ calL := by decide +kernel
theorem c_314 {O : pO} {j n0 : Nat} {Q : pQ} {pc : Nat} {L : pL} {S : List pv} {n : Nat} {M : pM} {b : Nat} {v1 v2 v3 v4 v5 : pv} (hm : mO j = 13) (hd : decode (mB j) pc = .ok (.invokevirtual 66, 3)) : J O j n0 Q pc L (v5 :: v4 :: v3 :: v2 :: v1 :: vr (b + 1) :: S) n M = (ob n b = 12 ∧ stk S ≤ 8 ∧ mo O 233 [vr (b + 1), v1, v2, v3, v4, v5] n M (kI O j n0 Q (pc + 3) L S n)) := by
  have e : kR (mR 233) O j n0 Q (pc + 3) L S n = kI O j n0 Q (pc + 3) L S n := kR_I (Or.inl rfl)
  rw [← e]; exact J_callV (As := [v1, v2, v3, v4, v5]) ce_314 (by rw [hm]) rfl rfl (by decide +kernel) rfl rfl hd
theorem ce_315 : (12, 482, 0, 232, 2035, 0) ∈ calL := by decide +kernel
theorem c_315 {O : pO} {j n0 : Nat} {Q : pQ} {pc : Nat} {L : pL} {S : List pv} {n : Nat} {M : pM} {b : Nat} {v1 v2 v3 v4 v5 : pv} (hm : mO j = 12) (hd : decode (mB j) pc = .ok (.invokevirtual 482, 3)) : J O j n0 Q pc L (v5 :: v4 :: v3 :: v2 :: v1 :: vr (b + 1) :: S) n M = (ob n b = 12 ∧ stk S ≤ 8 ∧ mo O 232 [vr (b + 1), v1, v2, v3, v4, v5] n M (kI O j n0 Q (pc + 3) L S n)) := by
  have e : kR (mR 232) O j n0 Q (pc + 3) L S n = kI O j n0 Q (pc + 3) L S n := kR_I (Or.inl rfl)
  rw [← e]; exact J_callV (As := [v1, v2, v3, v4, v5]) ce_315 (by rw [hm]) rfl rfl (by decide +kernel) rfl rfl hd
theorem ce_316 : (12, 479, 0, 231, 2039, 0) ∈ calL := by decide +kernel
theorem c_316 {O : pO} {j n0 : Nat} {Q : pQ} {pc : Nat} {L : pL} {S : List pv} {n : Nat} {M : pM} {b : Nat} {v1 v2 : pv} (hm : mO j = 12) (hd : decode (mB j) pc = .ok (.invokevirtual 479, 3)) : J O j n0 Q pc L (v2 :: v1 :: vr (b + 1) :: S) n M = (ob n b = 12 ∧ stk S ≤ 8 ∧ mo O 231 [vr (b + 1), v1, v2] n M (kV O j n0 Q (pc + 3) L S n)) := by
  have e : kR (mR 231) O j n0 Q (pc + 3) L S n = kV O j n0 Q (pc + 3) L S n := kR_V
  rw [← e]; exact J_callV (As := [v1, v2]) ce_316 (by rw [hm]) rfl rfl (by decide +kernel) rfl rfl hd
theorem ce_317 : (12, 468, 1, 228, 2043, 0) ∈ calL := by decide +kernel
theorem c_317 {O : pO} {j n0 : Nat} {Q : pQ} {pc : Nat} {L : pL} {S : List pv} {n : Nat} {M : pM} {v1 v2 v3 v4 : pv} (hm : mO j = 12) (hd : decode (mB j) pc = .ok (.invokestatic 468, 3)) : J O j n0 Q pc L (v4 :: v3 :: v2 :: v1 :: S) n M = (stk S ≤ 8 ∧ mo O 228 [v1, v2, v3, v4] n M (kI O j n0 Q (pc + 3) L S n)) := by
  have e : kR (mR 228) O j n0 Q (pc + 3) L S n = kI O j n0 Q (pc + 3) L S n := kR_I (Or.inl rfl)
  rw [← e]; exact J_callS (As := [v1, v2, v3, v4]) ce_317 (by rw [hm]) rfl rfl (by decide +kernel) rfl rfl hd
theorem ce_318 : (12, 472, 0, 230, 2046, 0) ∈ calL := by decide +kernel
theorem c_318 {O : pO} {j n0 : Nat} {Q : pQ} {pc : Nat} {L : pL} {S : List pv} {n : Nat} {M : pM} {b : Nat} {v1 v2 v3 v4 v5 v6 : pv} (hm : mO j = 12) (hd : decode (mB j) pc = .ok (.invokevirtual 472, 3)) : J O j n0 Q pc L (v6 :: v5 :: v4 :: v3 :: v2 :: v1 :: vr (b + 1) :: S) n M = (ob n b = 12 ∧ stk S ≤ 8 ∧ mo O 230 [vr (b + 1), v1, v2, v3, v4, v5, v6] n M (kI O j n0 Q (pc + 3) L S n)) := by
  have e : kR (mR 230) O j n0 Q (pc + 3) L S n = kI O j n0 Q (pc + 3) L S n := kR_I (Or.inl rfl)
  rw [← e]; exact J_callV (As := [v1, v2, v3, v4, v5, v6]) ce_318 (by rw [hm]) rfl rfl (by decide +kernel) rfl rfl hd
theorem ce_319 : (12, 462, 0, 229, 2050, 0) ∈ calL := by decide +kernel
theorem c_319 {O : pO} {j n0 : Nat} {Q : pQ} {pc : Nat} {L : pL} {S : List pv} {n : Nat} {M : pM} {b : Nat} {v1 v2 v3 v4 : pv} (hm : mO j = 12) (hd : decode (mB j) pc = .ok (.invokevirtual 462, 3)) : J O j n0 Q pc L (v4 :: v3 :: v2 :: v1 :: vr (b + 1) :: S) n M = (ob n b = 12 ∧ stk S ≤ 8 ∧ mo O 229 [vr (b + 1), v1, v2, v3, v4] n M (kI O j n0 Q (pc + 3) L S n)) := by
  have e : kR (mR 229) O j n0 Q (pc + 3) L S n = kI O j n0 Q (pc + 3) L S n := kR_I (Or.inr (Or.inl rfl))
  rw [← e]; exact J_callV (As := [v1, v2, v3, v4]) ce_319 (by rw [hm]) rfl rfl (by decide +kernel) rfl rfl hd
theorem ce_320 : (12, 465, 0, 227, 2054, 0) ∈ calL := by decide +kernel
theorem c_320 {O : pO} {j n0 : Nat} {Q : pQ} {pc : Nat} {L : pL} {S : List pv} {n : Nat} {M : pM} {b : Nat} {v1 v2 : pv} (hm : mO j = 12) (hd : decode (mB j) pc = .ok (.invokevirtual 465, 3)) : J O j n0 Q pc L (v2 :: v1 :: vr (b + 1) :: S) n M = (ob n b = 12 ∧ stk S ≤ 8 ∧ mo O 227 [vr (b + 1), v1, v2] n M (kI O j n0 Q (pc + 3) L S n)) := by
  have e : kR (mR 227) O j n0 Q (pc + 3) L S n = kI O j n0 Q (pc + 3) L S n := kR_I (Or.inl rfl)
  rw [← e]; exact J_callV (As := [v1, v2]) ce_320 (by rw [hm]) rfl rfl (by decide +kernel) rfl rfl hd
theorem ce_321 : (13, 71, 0, 234, 2058, 0) ∈ calL := by decide +kernel
theorem c_321 {O : pO} {j n0 : Nat} {Q : pQ} {pc : Nat} {L : pL} {S : List pv} {n : Nat} {M : pM} {b : Nat} {v1 v2 v3 v4 v5 v6 : pv} (hm : mO j = 13) (hd : decode (mB j) pc = .ok (.invokevirtual 71, 3)) : J O j n0 Q pc L (v6 :: v5 :: v4 :: v3 :: v2 :: v1 :: vr (b + 1) :: S) n M = (ob n b = 12 ∧ stk S ≤ 8 ∧ mo O 234 [vr (b + 1), v1, v2, v3, v4, v5, v6] n M (kI O j n0 Q (pc + 3) L S n)) := by
  have e : kR (mR 234) O j n0 Q (pc + 3) L S n = kI O j n0 Q (pc + 3) L S n := kR_I (Or.inl rfl)
  rw [← e]; exact J_callV (As := [v1, v2, v3, v4, v5, v6]) ce_321 (by rw [hm]) rfl rfl (by decide +kernel) rfl rfl hd
theorem ce_322 : (13, 76, 0, 235, 2062, 0) ∈ calL := by decide +kernel
theorem c_322 {O : pO} {j n0 : Nat} {Q : pQ} {pc : Nat} {L : pL} {S : List pv} {n : Nat} {M : pM} {b : Nat} {v1 v2 v3 v4 : pv} (hm : mO j = 13) (hd : decode (mB j) pc = .ok (.invokevirtual 76, 3)) : J O j n0 Q pc L (v4 :: v3 :: v2 :: v1 :: vr (b + 1) :: S) n M = (ob n b = 12 ∧ stk S ≤ 8 ∧ mo O 235 [vr (b + 1), v1, v2, v3, v4] n M (kI O j n0 Q (pc + 3) L S n)) := by
  have e : kR (mR 235) O j n0 Q (pc + 3) L S n = kI O j n0 Q (pc + 3) L S n := kR_I (Or.inl rfl)
  rw [← e]; exact J_callV (As := [v1, v2, v3, v4]) ce_322 (by rw [hm]) rfl rfl (by decide +kernel) rfl rfl hd
theorem ce_323 : (12, 486, 0, 236, 2066, 0) ∈ calL := by decide +kernel
theorem c_323 {O : pO} {j n0 : Nat} {Q : pQ} {pc : Nat} {L : pL} {S : List pv} {n : Nat} {M : pM} {b : Nat} {v1 v2 v3 v4 : pv} (hm : mO j = 12) (hd : decode (mB j) pc = .ok (.invokevirtual 486, 3)) : J O j n0 Q pc L (v4 :: v3 :: v2 :: v1 :: vr (b + 1) :: S) n M = (ob n b = 12 ∧ stk S ≤ 8 ∧ mo O 236 [vr (b + 1), v1, v2, v3, v4] n M (kV O j n0 Q (pc + 3) L S n)) := by
  have e : kR (mR 236) O j n0 Q (pc + 3) L S n = kV O j n0 Q (pc + 3) L S n := kR_V
  rw [← e]; exact J_callV (As := [v1, v2, v3, v4]) ce_323 (by rw [hm]) rfl rfl (by decide +kernel) rfl rfl hd
theorem ce_324 : (12, 490, 0, 237, 2070, 0) ∈ calL := by decide +kernel
theorem c_324 {O : pO} {j n0 : Nat} {Q : pQ} {pc : Nat} {L : pL} {S : List pv} {n : Nat} {M : pM} {b : Nat} {v1 v2 : pv} (hm : mO j = 12) (hd : decode (mB j) pc = .ok (.invokevirtual 490, 3)) : J O j n0 Q pc L (v2 :: v1 :: vr (b + 1) :: S) n M = (ob n b = 12 ∧ stk S ≤ 8 ∧ mo O 237 [vr (b + 1), v1, v2] n M (kI O j n0 Q (pc + 3) L S n)) := by
  have e : kR (mR 237) O j n0 Q (pc + 3) L S n = kI O j n0 Q (pc + 3) L S n := kR_I (Or.inr (Or.inl rfl))
  rw [← e]; exact J_callV (As := [v1, v2]) ce_324 (by rw [hm]) rfl rfl (by decide +kernel) rfl rfl hd
theorem ce_325 : (13, 81, 0, 239, 2074, 0) ∈ calL := by decide +kernel
theorem c_325 {O : pO} {j n0 : Nat} {Q : pQ} {pc : Nat} {L : pL} {S : List pv} {n : Nat} {M : pM} {b : Nat} {v1 v2 v3 : pv} (hm : mO j = 13) (hd : decode (mB j) pc = .ok (.invokevirtual 81, 3)) : J O j n0 Q pc L (v3 :: v2 :: v1 :: vr (b + 1) :: S) n M = (ob n b = 12 ∧ stk S ≤ 8 ∧ mo O 239 [vr (b + 1), v1, v2, v3] n M (kI O j n0 Q (pc + 3) L S n)) := by
  have e : kR (mR 239) O j n0 Q (pc + 3) L S n = kI O j n0 Q (pc + 3) L S n := kR_I (Or.inr (Or.inl rfl))
  rw [← e]; exact J_callV (As := [v1, v2, v3]) ce_325 (by rw [hm]) rfl rfl (by decide +kernel) rfl rfl hd
theorem ce_326 : (12, 494, 1, 238, 2078, 0) ∈ calL := by decide +kernel
theorem c_326 {O : pO} {j n0 : Nat} {Q : pQ} {pc : Nat} {L : pL} {S : List pv} {n : Nat} {M : pM} {v1 v2 v3 : pv} (hm : mO j = 12) (hd : decode (mB j) pc = .ok (.invokestatic 494, 3)) : J O j n0 Q pc L (v3 :: v2 :: v1 :: S) n M = (stk S ≤ 8 ∧ mo O 238 [v1, v2, v3] n M (kI O j n0 Q (pc + 3) L S n)) := by
  have e : kR (mR 238) O j n0 Q (pc + 3) L S n = kI O j n0 Q (pc + 3) L S n := kR_I (Or.inr (Or.inl rfl))
  rw [← e]; exact J_callS (As := [v1, v2, v3]) ce_326 (by rw [hm]) rfl rfl (by decide +kernel) rfl rfl hd
theorem ce_327 : (13, 86, 0, 240, 2081, 0) ∈ calL := by decide +kernel
theorem c_327 {O : pO} {j n0 : Nat} {Q : pQ} {pc : Nat} {L : pL} {S : List pv} {n : Nat} {M : pM} {b : Nat} {v1 v2 : pv} (hm : mO j = 13) (hd : decode (mB j) pc = .ok (.invokevirtual 86, 3)) : J O j n0 Q pc L (v2 :: v1 :: vr (b + 1) :: S) n M = (ob n b = 12 ∧ stk S ≤ 8 ∧ mo O 240 [vr (b + 1), v1, v2] n M (kI O j n0 Q (pc + 3) L S n)) := by
  have e : kR (mR 240) O j n0 Q (pc + 3) L S n = kI O j n0 Q (pc + 3) L S n := kR_I (Or.inl rfl)
  rw [← e]; exact J_callV (As := [v1, v2]) ce_327 (by rw [hm]) rfl rfl (by decide +kernel) rfl rfl hd
theorem ce_328 : (12, 500, 0, 241, 2085, 0) ∈ calL := by decide +kernel
theorem c_328 {O : pO} {j n0 : Nat} {Q : pQ} {pc : Nat} {L : pL} {S : List pv} {n : Nat} {M : pM} {b : Nat} (hm : mO j = 12) (hd : decode (mB j) pc = .ok (.invokevirtual 500, 3)) : J O j n0 Q pc L (vr (b + 1) :: S) n M = (ob n b = 12 ∧ stk S ≤ 8 ∧ mo O 241 [vr (b + 1)] n M (kV O j n0 Q (pc + 3) L S n)) := by
  have e : kR (mR 241) O j n0 Q (pc + 3) L S n = kV O j n0 Q (pc + 3) L S n := kR_V
  rw [← e]; exact J_callV (As := []) ce_328 (by rw [hm]) rfl rfl (by decide +kernel) rfl rfl hd
theorem ce_329 : (13, 90, 0, 242, 2089, 0) ∈ calL := by decide +kernel
theorem c_329 {O : pO} {j n0 : Nat} {Q : pQ} {pc : Nat} {L : pL} {S : List pv} {n : Nat} {M : pM} {b : Nat} {v1 v2 : pv} (hm : mO j = 13) (hd : decode (mB j) pc = .ok (.invokevirtual 90, 3)) : J O j n0 Q pc L (v2 :: v1 :: vr (b + 1) :: S) n M = (ob n b = 12 ∧ stk S ≤ 8 ∧ mo O 242 [vr (b + 1), v1, v2] n M (kI O j n0 Q (pc + 3) L S n)) := by
  have e : kR (mR 242) O j n0 Q (pc + 3) L S n = kI O j n0 Q (pc + 3) L S n := kR_I (Or.inl rfl)
  rw [← e]; exact J_callV (As := [v1, v2]) ce_329 (by rw [hm]) rfl rfl (by decide +kernel) rfl rfl hd
theorem ce_330 : (13, 94, 0, 244, 2093, 0) ∈ calL := by decide +kernel
theorem c_330 {O : pO} {j n0 : Nat} {Q : pQ} {pc : Nat} {L : pL} {S : List pv} {n : Nat} {M : pM} {b : Nat} {v1 : pv} (hm : mO j = 13) (hd : decode (mB j) pc = .ok (.invokevirtual 94, 3)) : J O j n0 Q pc L (v1 :: vr (b + 1) :: S) n M = (ob n b = 12 ∧ stk S ≤ 8 ∧ mo O 244 [vr (b + 1), v1] n M (kI O j n0 Q (pc + 3) L S n)) := by
  have e : kR (mR 244) O j n0 Q (pc + 3) L S n = kI O j n0 Q (pc + 3) L S n := kR_I (Or.inl rfl)
  rw [← e]; exact J_callV (As := [v1]) ce_330 (by rw [hm]) rfl rfl (by decide +kernel) rfl rfl hd
theorem ce_331 : (13, 98, 0, 245, 2097, 0) ∈ calL := by decide +kernel
theorem c_331 {O : pO} {j n0 : Nat} {Q : pQ} {pc : Nat} {L : pL} {S : List pv} {n : Nat} {M : pM} {b : Nat} {v1 v2 v3 v4 : pv} (hm : mO j = 13) (hd : decode (mB j) pc = .ok (.invokevirtual 98, 3)) : J O j n0 Q pc L (v4 :: v3 :: v2 :: v1 :: vr (b + 1) :: S) n M = (ob n b = 12 ∧ stk S ≤ 8 ∧ mo O 245 [vr (b + 1), v1, v2, v3, v4] n M (kI O j n0 Q (pc + 3) L S n)) := by
  have e : kR (mR 245) O j n0 Q (pc + 3) L S n = kI O j n0 Q (pc + 3) L S n := kR_I (Or.inl rfl)
  rw [← e]; exact J_callV (As := [v1, v2, v3, v4]) ce_331 (by rw [hm]) rfl rfl (by decide +kernel) rfl rfl hd
theorem ce_332 : (12, 503, 0, 243, 2101, 0) ∈ calL := by decide +kernel
theorem c_332 {O : pO} {j n0 : Nat} {Q : pQ} {pc : Nat} {L : pL} {S : List pv} {n : Nat} {M : pM} {b : Nat} {v1 : pv} (hm : mO j = 12) (hd : decode (mB j) pc = .ok (.invokevirtual 503, 3)) : J O j n0 Q pc L (v1 :: vr (b + 1) :: S) n M = (ob n b = 12 ∧ stk S ≤ 8 ∧ mo O 243 [vr (b + 1), v1] n M (kI O j n0 Q (pc + 3) L S n)) := by
  have e : kR (mR 243) O j n0 Q (pc + 3) L S n = kI O j n0 Q (pc + 3) L S n := kR_I (Or.inr (Or.inl rfl))
  rw [← e]; exact J_callV (As := [v1]) ce_332 (by rw [hm]) rfl rfl (by decide +kernel) rfl rfl hd
theorem ce_333 : (13, 103, 0, 246, 2105, 0) ∈ calL := by decide +kernel
theorem c_333 {O : pO} {j n0 : Nat} {Q : pQ} {pc : Nat} {L : pL} {S : List pv} {n : Nat} {M : pM} {b : Nat} {v1 : pv} (hm : mO j = 13) (hd : decode (mB j) pc = .ok (.invokevirtual 103, 3)) : J O j n0 Q pc L (v1 :: vr (b + 1) :: S) n M = (ob n b = 12 ∧ stk S ≤ 8 ∧ mo O 246 [vr (b + 1), v1] n M (kI O j n0 Q (pc + 3) L S n)) := by
  have e : kR (mR 246) O j n0 Q (pc + 3) L S n = kI O j n0 Q (pc + 3) L S n := kR_I (Or.inr (Or.inl rfl))
  rw [← e]; exact J_callV (As := [v1]) ce_333 (by rw [hm]) rfl rfl (by decide +kernel) rfl rfl hd
theorem ce_334 : (13, 107, 0, 247, 2109, 0) ∈ calL := by decide +kernel
theorem c_334 {O : pO} {j n0 : Nat} {Q : pQ} {pc : Nat} {L : pL} {S : List pv} {n : Nat} {M : pM} {b : Nat} {v1 : pv} (hm : mO j = 13) (hd : decode (mB j) pc = .ok (.invokevirtual 107, 3)) : J O j n0 Q pc L (v1 :: vr (b + 1) :: S) n M = (ob n b = 12 ∧ stk S ≤ 8 ∧ mo O 247 [vr (b + 1), v1] n M (kI O j n0 Q (pc + 3) L S n)) := by
  have e : kR (mR 247) O j n0 Q (pc + 3) L S n = kI O j n0 Q (pc + 3) L S n := kR_I (Or.inl rfl)
  rw [← e]; exact J_callV (As := [v1]) ce_334 (by rw [hm]) rfl rfl (by decide +kernel) rfl rfl hd
theorem ce_335 : (13, 111, 0, 248, 2113, 0) ∈ calL := by decide +kernel
theorem c_335 {O : pO} {j n0 : Nat} {Q : pQ} {pc : Nat} {L : pL} {S : List pv} {n : Nat} {M : pM} {b : Nat} {v1 : pv} (hm : mO j = 13) (hd : decode (mB j) pc = .ok (.invokevirtual 111, 3)) : J O j n0 Q pc L (v1 :: vr (b + 1) :: S) n M = (ob n b = 12 ∧ stk S ≤ 8 ∧ mo O 248 [vr (b + 1), v1] n M (kI O j n0 Q (pc + 3) L S n)) := by
  have e : kR (mR 248) O j n0 Q (pc + 3) L S n = kI O j n0 Q (pc + 3) L S n := kR_I (Or.inr (Or.inl rfl))
  rw [← e]; exact J_callV (As := [v1]) ce_335 (by rw [hm]) rfl rfl (by decide +kernel) rfl rfl hd
theorem ce_336 : (13, 116, 0, 256, 2117, 0) ∈ calL := by decide +kernel
theorem c_336 {O : pO} {j n0 : Nat} {Q : pQ} {pc : Nat} {L : pL} {S : List pv} {n : Nat} {M : pM} {b : Nat} {v1 v2 v3 : pv} (hm : mO j = 13) (hd : decode (mB j) pc = .ok (.invokevirtual 116, 3)) : J O j n0 Q pc L (v3 :: v2 :: v1 :: vr (b + 1) :: S) n M = (ob n b = 12 ∧ stk S ≤ 8 ∧ mo O 256 [vr (b + 1), v1, v2, v3] n M (kI O j n0 Q (pc + 3) L S n)) := by
  have e : kR (mR 256) O j n0 Q (pc + 3) L S n = kI O j n0 Q (pc + 3) L S n := kR_I (Or.inl rfl)
  rw [← e]; exact J_callV (As := [v1, v2, v3]) ce_336 (by rw [hm]) rfl rfl (by decide +kernel) rfl rfl hd
theorem ce_337 : (12, 528, 0, 251, 2121, 0) ∈ calL := by decide +kernel
theorem c_337 {O : pO} {j n0 : Nat} {Q : pQ} {pc : Nat} {L : pL} {S : List pv} {n : Nat} {M : pM} {b : Nat} {v1 v2 : pv} (hm : mO j = 12) (hd : decode (mB j) pc = .ok (.invokevirtual 528, 3)) : J O j n0 Q pc L (v2 :: v1 :: vr (b + 1) :: S) n M = (ob n b = 12 ∧ stk S ≤ 8 ∧ mo O 251 [vr (b + 1), v1, v2] n M (kV O j n0 Q (pc + 3) L S n)) := by
  have e : kR (mR 251) O j n0 Q (pc + 3) L S n = kV O j n0 Q (pc + 3) L S n := kR_V
  rw [← e]; exact J_callV (As := [v1, v2]) ce_337 (by rw [hm]) rfl rfl (by decide +kernel) rfl rfl hd
theorem ce_338 : (12, 531, 0, 255, 2125, 0) ∈ calL := by decide +kernel
theorem c_338 {O : pO} {j n0 : Nat} {Q : pQ} {pc : Nat} {L : pL} {S : List pv} {n : Nat} {M : pM} {b : Nat} (hm : mO j = 12) (hd : decode (mB j) pc = .ok (.invokevirtual 531, 3)) : J O j n0 Q pc L (vr (b + 1) :: S) n M = (ob n b = 12 ∧ stk S ≤ 8 ∧ mo O 255 [vr (b + 1)] n M (kI O j n0 Q (pc + 3) L S n)) := by
  have e : kR (mR 255) O j n0 Q (pc + 3) L S n = kI O j n0 Q (pc + 3) L S n := kR_I (Or.inl rfl)
  rw [← e]; exact J_callV (As := []) ce_338 (by rw [hm]) rfl rfl (by decide +kernel) rfl rfl hd
theorem ce_339 : (12, 522, 0, 252, 2129, 0) ∈ calL := by decide +kernel
theorem c_339 {O : pO} {j n0 : Nat} {Q : pQ} {pc : Nat} {L : pL} {S : List pv} {n : Nat} {M : pM} {b : Nat} {v1 v2 : pv} (hm : mO j = 12) (hd : decode (mB j) pc = .ok (.invokevirtual 522, 3)) : J O j n0 Q pc L (v2 :: v1 :: vr (b + 1) :: S) n M = (ob n b = 12 ∧ stk S ≤ 8 ∧ mo O 252 [vr (b + 1), v1, v2] n M (kI O j n0 Q (pc + 3) L S n)) := by
  have e : kR (mR 252) O j n0 Q (pc + 3) L S n = kI O j n0 Q (pc + 3) L S n := kR_I (Or.inr (Or.inl rfl))
  rw [← e]; exact J_callV (As := [v1, v2]) ce_339 (by rw [hm]) rfl rfl (by decide +kernel) rfl rfl hd
theorem ce_340 : (12, 519, 1, 250, 2133, 0) ∈ calL := by decide +kernel
theorem c_340 {O : pO} {j n0 : Nat} {Q : pQ} {pc : Nat} {L : pL} {S : List pv} {n : Nat} {M : pM} {v1 v2 : pv} (hm : mO j = 12) (hd : decode (mB j) pc = .ok (.invokestatic 519, 3)) : J O j n0 Q pc L (v2 :: v1 :: S) n M = (stk S ≤ 8 ∧ mo O 250 [v1, v2] n M (kI O j n0 Q (pc + 3) L S n)) := by
  have e : kR (mR 250) O j n0 Q (pc + 3) L S n = kI O j n0 Q (pc + 3) L S n := kR_I (Or.inl rfl)
  rw [← e]; exact J_callS (As := [v1, v2]) ce_340 (by rw [hm]) rfl rfl (by decide +kernel) rfl rfl hd
theorem ce_341 : (12, 513, 1, 249, 2136, 0) ∈ calL := by decide +kernel
theorem c_341 {O : pO} {j n0 : Nat} {Q : pQ} {pc : Nat} {L : pL} {S : List pv} {n : Nat} {M : pM} {v1 : pv} (hm : mO j = 12) (hd : decode (mB j) pc = .ok (.invokestatic 513, 3)) : J O j n0 Q pc L (v1 :: S) n M = (stk S ≤ 8 ∧ mo O 249 [v1] n M (kI O j n0 Q (pc + 3) L S n)) := by
  have e : kR (mR 249) O j n0 Q (pc + 3) L S n = kI O j n0 Q (pc + 3) L S n := kR_I (Or.inl rfl)
  rw [← e]; exact J_callS (As := [v1]) ce_341 (by rw [hm]) rfl rfl (by decide +kernel) rfl rfl hd
theorem ce_342 : (12, 525, 0, 254, 2139, 0) ∈ calL := by decide +kernel
theorem c_342 {O : pO} {j n0 : Nat} {Q : pQ} {pc : Nat} {L : pL} {S : List pv} {n : Nat} {M : pM} {b : Nat} {v1 v2 : pv} (hm : mO j = 12) (hd : decode (mB j) pc = .ok (.invokevirtual 525, 3)) : J O j n0 Q pc L (v2 :: v1 :: vr (b + 1) :: S) n M = (ob n b = 12 ∧ stk S ≤ 8 ∧ mo O 254 [vr (b + 1), v1, v2] n M (kI O j n0 Q (pc + 3) L S n)) := by
  have e : kR (mR 254) O j n0 Q (pc + 3) L S n = kI O j n0 Q (pc + 3) L S n := kR_I (Or.inl rfl)
  rw [← e]; exact J_callV (As := [v1, v2]) ce_342 (by rw [hm]) rfl rfl (by decide +kernel) rfl rfl hd
theorem ce_343 : (12, 534, 0, 253, 2143, 0) ∈ calL := by decide +kernel
theorem c_343 {O : pO} {j n0 : Nat} {Q : pQ} {pc : Nat} {L : pL} {S : List pv} {n : Nat} {M : pM} {b : Nat} (hm : mO j = 12) (hd : decode (mB j) pc = .ok (.invokevirtual 534, 3)) : J O j n0 Q pc L (vr (b + 1) :: S) n M = (ob n b = 12 ∧ stk S ≤ 8 ∧ mo O 253 [vr (b + 1)] n M (kI O j n0 Q (pc + 3) L S n)) := by
  have e : kR (mR 253) O j n0 Q (pc + 3) L S n = kI O j n0 Q (pc + 3) L S n := kR_I (Or.inl rfl)
  rw [← e]; exact J_callV (As := []) ce_343 (by rw [hm]) rfl rfl (by decide +kernel) rfl rfl hd
theorem ce_344 : (13, 120, 0, 264, 2147, 0) ∈ calL := by decide +kernel
theorem c_344 {O : pO} {j n0 : Nat} {Q : pQ} {pc : Nat} {L : pL} {S : List pv} {n : Nat} {M : pM} {b : Nat} {v1 v2 v3 : pv} (hm : mO j = 13) (hd : decode (mB j) pc = .ok (.invokevirtual 120, 3)) : J O j n0 Q pc L (v3 :: v2 :: v1 :: vr (b + 1) :: S) n M = (ob n b = 12 ∧ stk S ≤ 8 ∧ mo O 264 [vr (b + 1), v1, v2, v3] n M (kI O j n0 Q (pc + 3) L S n)) := by
  have e : kR (mR 264) O j n0 Q (pc + 3) L S n = kI O j n0 Q (pc + 3) L S n := kR_I (Or.inl rfl)
  rw [← e]; exact J_callV (As := [v1, v2, v3]) ce_344 (by rw [hm]) rfl rfl (by decide +kernel) rfl rfl hd
theorem ce_345 : (12, 546, 0, 259, 2151, 0) ∈ calL := by decide +kernel
theorem c_345 {O : pO} {j n0 : Nat} {Q : pQ} {pc : Nat} {L : pL} {S : List pv} {n : Nat} {M : pM} {b : Nat} (hm : mO j = 12) (hd : decode (mB j) pc = .ok (.invokevirtual 546, 3)) : J O j n0 Q pc L (vr (b + 1) :: S) n M = (ob n b = 12 ∧ stk S ≤ 8 ∧ mo O 259 [vr (b + 1)] n M (kI O j n0 Q (pc + 3) L S n)) := by
  have e : kR (mR 259) O j n0 Q (pc + 3) L S n = kI O j n0 Q (pc + 3) L S n := kR_I (Or.inl rfl)
  rw [← e]; exact J_callV (As := []) ce_345 (by rw [hm]) rfl rfl (by decide +kernel) rfl rfl hd
theorem ce_346 : (12, 537, 0, 257, 2155, 0) ∈ calL := by decide +kernel
theorem c_346 {O : pO} {j n0 : Nat} {Q : pQ} {pc : Nat} {L : pL} {S : List pv} {n : Nat} {M : pM} {b : Nat} {v1 : pv} (hm : mO j = 12) (hd : decode (mB j) pc = .ok (.invokevirtual 537, 3)) : J O j n0 Q pc L (v1 :: vr (b + 1) :: S) n M = (ob n b = 12 ∧ stk S ≤ 8 ∧ mo O 257 [vr (b + 1), v1] n M (kI O j n0 Q (pc + 3) L S n)) := by
  have e : kR (mR 257) O j n0 Q (pc + 3) L S n = kI O j n0 Q (pc + 3) L S n := kR_I (Or.inl rfl)
  rw [← e]; exact J_callV (As := [v1]) ce_346 (by rw [hm]) rfl rfl (by decide +kernel) rfl rfl hd
theorem ce_347 : (12, 549, 0, 258, 2159, 0) ∈ calL := by decide +kernel
theorem c_347 {O : pO} {j n0 : Nat} {Q : pQ} {pc : Nat} {L : pL} {S : List pv} {n : Nat} {M : pM} {b : Nat} (hm : mO j = 12) (hd : decode (mB j) pc = .ok (.invokevirtual 549, 3)) : J O j n0 Q pc L (vr (b + 1) :: S) n M = (ob n b = 12 ∧ stk S ≤ 8 ∧ mo O 258 [vr (b + 1)] n M (kI O j n0 Q (pc + 3) L S n)) := by
  have e : kR (mR 258) O j n0 Q (pc + 3) L S n = kI O j n0 Q (pc + 3) L S n := kR_I (Or.inl rfl)
  rw [← e]; exact J_callV (As := []) ce_347 (by rw [hm]) rfl rfl (by decide +kernel) rfl rfl hd
theorem ce_348 : (12, 552, 0, 260, 2163, 0) ∈ calL := by decide +kernel
theorem c_348 {O : pO} {j n0 : Nat} {Q : pQ} {pc : Nat} {L : pL} {S : List pv} {n : Nat} {M : pM} {b : Nat} (hm : mO j = 12) (hd : decode (mB j) pc = .ok (.invokevirtual 552, 3)) : J O j n0 Q pc L (vr (b + 1) :: S) n M = (ob n b = 12 ∧ stk S ≤ 8 ∧ mo O 260 [vr (b + 1)] n M (kI O j n0 Q (pc + 3) L S n)) := by
  have e : kR (mR 260) O j n0 Q (pc + 3) L S n = kI O j n0 Q (pc + 3) L S n := kR_I (Or.inl rfl)
  rw [← e]; exact J_callV (As := []) ce_348 (by rw [hm]) rfl rfl (by decide +kernel) rfl rfl hd
theorem ce_349 : (12, 543, 0, 261, 2167, 0) ∈ calL := by decide +kernel
theorem c_349 {O : pO} {j n0 : Nat} {Q : pQ} {pc : Nat} {L : pL} {S : List pv} {n : Nat} {M : pM} {b : Nat} (hm : mO j = 12) (hd : decode (mB j) pc = .ok (.invokevirtual 543, 3)) : J O j n0 Q pc L (vr (b + 1) :: S) n M = (ob n b = 12 ∧ stk S ≤ 8 ∧ mo O 261 [vr (b + 1)] n M (kI O j n0 Q (pc + 3) L S n)) := by
  have e : kR (mR 261) O j n0 Q (pc + 3) L S n = kI O j n0 Q (pc + 3) L S n := kR_I (Or.inl rfl)
  rw [← e]; exact J_callV (As := []) ce_349 (by rw [hm]) rfl rfl (by decide +kernel) rfl rfl hd
theorem ce_350 : (12, 555, 0, 263, 2171, 0) ∈ calL := by decide +kernel
theorem c_350 {O : pO} {j n0 : Nat} {Q : pQ} {pc : Nat} {L : pL} {S : List pv} {n : Nat} {M : pM} {b : Nat} (hm : mO j = 12) (hd : decode (mB j) pc = .ok (.invokevirtual 555, 3)) : J O j n0 Q pc L (vr (b + 1) :: S) n M = (ob n b = 12 ∧ stk S ≤ 8 ∧ mo O 263 [vr (b + 1)] n M (kI O j n0 Q (pc + 3) L S n)) := by
  have e : kR (mR 263) O j n0 Q (pc + 3) L S n = kI O j n0 Q (pc + 3) L S n := kR_I (Or.inl rfl)
  rw [← e]; exact J_callV (As := []) ce_350 (by rw [hm]) rfl rfl (by decide +kernel) rfl rfl hd
theorem ce_351 : (12, 540, 0, 262, 2175, 0) ∈ calL := by decide +kernel
theorem c_351 {O : pO} {j n0 : Nat} {Q : pQ} {pc : Nat} {L : pL} {S : List pv} {n : Nat} {M : pM} {b : Nat} {v1 v2 : pv} (hm : mO j = 12) (hd : decode (mB j) pc = .ok (.invokevirtual 540, 3)) : J O j n0 Q pc L (v2 :: v1 :: vr (b + 1) :: S) n M = (ob n b = 12 ∧ stk S ≤ 8 ∧ mo O 262 [vr (b + 1), v1, v2] n M (kI O j n0 Q (pc + 3) L S n)) := by
  have e : kR (mR 262) O j n0 Q (pc + 3) L S n = kI O j n0 Q (pc + 3) L S n := kR_I (Or.inr (Or.inl rfl))
  rw [← e]; exact J_callV (As := [v1, v2]) ce_351 (by rw [hm]) rfl rfl (by decide +kernel) rfl rfl hd
theorem ce_352 : (13, 31, 0, 265, 2179, 0) ∈ calL := by decide +kernel
theorem c_352 {O : pO} {j n0 : Nat} {Q : pQ} {pc : Nat} {L : pL} {S : List pv} {n : Nat} {M : pM} {b : Nat} (hm : mO j = 13) (hd : decode (mB j) pc = .ok (.invokevirtual 31, 3)) : J O j n0 Q pc L (vr (b + 1) :: S) n M = (ob n b = 12 ∧ stk S ≤ 8 ∧ mo O 265 [vr (b + 1)] n M (kI O j n0 Q (pc + 3) L S n)) := by
  have e : kR (mR 265) O j n0 Q (pc + 3) L S n = kI O j n0 Q (pc + 3) L S n := kR_I (Or.inl rfl)
  rw [← e]; exact J_callV (As := []) ce_352 (by rw [hm]) rfl rfl (by decide +kernel) rfl rfl hd
theorem ce_353 : (12, 567, 0, 268, 2183, 0) ∈ calL := by decide +kernel
theorem c_353 {O : pO} {j n0 : Nat} {Q : pQ} {pc : Nat} {L : pL} {S : List pv} {n : Nat} {M : pM} {b : Nat} (hm : mO j = 12) (hd : decode (mB j) pc = .ok (.invokevirtual 567, 3)) : J O j n0 Q pc L (vr (b + 1) :: S) n M = (ob n b = 12 ∧ stk S ≤ 8 ∧ mo O 268 [vr (b + 1)] n M (kV O j n0 Q (pc + 3) L S n)) := by
  have e : kR (mR 268) O j n0 Q (pc + 3) L S n = kV O j n0 Q (pc + 3) L S n := kR_V
  rw [← e]; exact J_callV (As := []) ce_353 (by rw [hm]) rfl rfl (by decide +kernel) rfl rfl hd
theorem ce_354 : (12, 579, 0, 267, 2187, 0) ∈ calL := by decide +kernel
theorem c_354 {O : pO} {j n0 : Nat} {Q : pQ} {pc : Nat} {L : pL} {S : List pv} {n : Nat} {M : pM} {b : Nat} {v1 v2 : pv} (hm : mO j = 12) (hd : decode (mB j) pc = .ok (.invokevirtual 579, 3)) : J O j n0 Q pc L (v2 :: v1 :: vr (b + 1) :: S) n M = (ob n b = 12 ∧ stk S ≤ 8 ∧ mo O 267 [vr (b + 1), v1, v2] n M (kV O j n0 Q (pc + 3) L S n)) := by
  have e : kR (mR 267) O j n0 Q (pc + 3) L S n = kV O j n0 Q (pc + 3) L S n := kR_V
  rw [← e]; exact J_callV (As := [v1, v2]) ce_354 (by rw [hm]) rfl rfl (by decide +kernel) rfl rfl hd
theorem ce_355 : (12, 582, 0, 270, 2191, 0) ∈ calL := by decide +kernel
theorem c_355 {O : pO} {j n0 : Nat} {Q : pQ} {pc : Nat} {L : pL} {S : List pv} {n : Nat} {M : pM} {b : Nat} (hm : mO j = 12) (hd : decode (mB j) pc = .ok (.invokevirtual 582, 3)) : J O j n0 Q pc L (vr (b + 1) :: S) n M = (ob n b = 12 ∧ stk S ≤ 8 ∧ mo O 270 [vr (b + 1)] n M (kI O j n0 Q (pc + 3) L S n)) := by
  have e : kR (mR 270) O j n0 Q (pc + 3) L S n = kI O j n0 Q (pc + 3) L S n := kR_I (Or.inr (Or.inl rfl))
  rw [← e]; exact J_callV (As := []) ce_355 (by rw [hm]) rfl rfl (by decide +kernel) rfl rfl hd
theorem ce_356 : (12, 588, 0, 269, 2195, 0) ∈ calL := by decide +kernel
theorem c_356 {O : pO} {j n0 : Nat} {Q : pQ} {pc : Nat} {L : pL} {S : List pv} {n : Nat} {M : pM} {b : Nat} (hm : mO j = 12) (hd : decode (mB j) pc = .ok (.invokevirtual 588, 3)) : J O j n0 Q pc L (vr (b + 1) :: S) n M = (ob n b = 12 ∧ stk S ≤ 8 ∧ mo O 269 [vr (b + 1)] n M (kI O j n0 Q (pc + 3) L S n)) := by
  have e : kR (mR 269) O j n0 Q (pc + 3) L S n = kI O j n0 Q (pc + 3) L S n := kR_I (Or.inl rfl)
  rw [← e]; exact J_callV (As := []) ce_356 (by rw [hm]) rfl rfl (by decide +kernel) rfl rfl hd
theorem ce_357 : (12, 591, 0, 266, 2199, 0) ∈ calL := by decide +kernel
theorem c_357 {O : pO} {j n0 : Nat} {Q : pQ} {pc : Nat} {L : pL} {S : List pv} {n : Nat} {M : pM} {b : Nat} {v1 v2 : pv} (hm : mO j = 12) (hd : decode (mB j) pc = .ok (.invokevirtual 591, 3)) : J O j n0 Q pc L (v2 :: v1 :: vr (b + 1) :: S) n M = (ob n b = 12 ∧ stk S ≤ 8 ∧ mo O 266 [vr (b + 1), v1, v2] n M (kV O j n0 Q (pc + 3) L S n)) := by
  have e : kR (mR 266) O j n0 Q (pc + 3) L S n = kV O j n0 Q (pc + 3) L S n := kR_V
  rw [← e]; exact J_callV (As := [v1, v2]) ce_357 (by rw [hm]) rfl rfl (by decide +kernel) rfl rfl hd
theorem ce_358 : (12, 585, 0, 273, 2203, 0) ∈ calL := by decide +kernel
theorem c_358 {O : pO} {j n0 : Nat} {Q : pQ} {pc : Nat} {L : pL} {S : List pv} {n : Nat} {M : pM} {b : Nat} (hm : mO j = 12) (hd : decode (mB j) pc = .ok (.invokevirtual 585, 3)) : J O j n0 Q pc L (vr (b + 1) :: S) n M = (ob n b = 12 ∧ stk S ≤ 8 ∧ mo O 273 [vr (b + 1)] n M (kI O j n0 Q (pc + 3) L S n)) := by
  have e : kR (mR 273) O j n0 Q (pc + 3) L S n = kI O j n0 Q (pc + 3) L S n := kR_I (Or.inr (Or.inl rfl))
  rw [← e]; exact J_callV (As := []) ce_358 (by rw [hm]) rfl rfl (by decide +kernel) rfl rfl hd
theorem ce_359 : (12, 594, 0, 271, 2207, 0) ∈ calL := by decide +kernel
theorem c_359 {O : pO} {j n0 : Nat} {Q : pQ} {pc : Nat} {L : pL} {S : List pv} {n : Nat} {M : pM} {b : Nat} (hm : mO j = 12) (hd : decode (mB j) pc = .ok (.invokevirtual 594, 3)) : J O j n0 Q pc L (vr (b + 1) :: S) n M = (ob n b = 12 ∧ stk S ≤ 8 ∧ mo O 271 [vr (b + 1)] n M (kI O j n0 Q (pc + 3) L S n)) := by
  have e : kR (mR 271) O j n0 Q (pc + 3) L S n = kI O j n0 Q (pc + 3) L S n := kR_I (Or.inl rfl)
  rw [← e]; exact J_callV (As := []) ce_359 (by rw [hm]) rfl rfl (by decide +kernel) rfl rfl hd
theorem ce_360 : (12, 597, 0, 272, 2211, 0) ∈ calL := by decide +kernel
theorem c_360 {O : pO} {j n0 : Nat} {Q : pQ} {pc : Nat} {L : pL} {S : List pv} {n : Nat} {M : pM} {b : Nat} (hm : mO j = 12) (hd : decode (mB j) pc = .ok (.invokevirtual 597, 3)) : J O j n0 Q pc L (vr (b + 1) :: S) n M = (ob n b = 12 ∧ stk S ≤ 8 ∧ mo O 272 [vr (b + 1)] n M (kI O j n0 Q (pc + 3) L S n)) := by
  have e : kR (mR 272) O j n0 Q (pc + 3) L S n = kI O j n0 Q (pc + 3) L S n := kR_I (Or.inr (Or.inl rfl))
  rw [← e]; exact J_callV (As := []) ce_360 (by rw [hm]) rfl rfl (by decide +kernel) rfl rfl hd
theorem ce_361 : (13, 124, 0, 279, 2215, 0) ∈ calL := by decide +kernel
theorem c_361 {O : pO} {j n0 : Nat} {Q : pQ} {pc : Nat} {L : pL} {S : List pv} {n : Nat} {M : pM} {b : Nat} {v1 v2 : pv} (hm : mO j = 13) (hd : decode (mB j) pc = .ok (.invokevirtual 124, 3)) : J O j n0 Q pc L (v2 :: v1 :: vr (b + 1) :: S) n M = (ob n b = 12 ∧ stk S ≤ 8 ∧ mo O 279 [vr (b + 1), v1, v2] n M (kI O j n0 Q (pc + 3) L S n)) := by
  have e : kR (mR 279) O j n0 Q (pc + 3) L S n = kI O j n0 Q (pc + 3) L S n := kR_I (Or.inl rfl)
  rw [← e]; exact J_callV (As := [v1, v2]) ce_361 (by rw [hm]) rfl rfl (by decide +kernel) rfl rfl hd
theorem ce_362 : (12, 634, 0, 277, 2219, 0) ∈ calL := by decide +kernel
theorem c_362 {O : pO} {j n0 : Nat} {Q : pQ} {pc : Nat} {L : pL} {S : List pv} {n : Nat} {M : pM} {b : Nat} {v1 : pv} (hm : mO j = 12) (hd : decode (mB j) pc = .ok (.invokevirtual 634, 3)) : J O j n0 Q pc L (v1 :: vr (b + 1) :: S) n M = (ob n b = 12 ∧ stk S ≤ 8 ∧ mo O 277 [vr (b + 1), v1] n M (kV O j n0 Q (pc + 3) L S n)) := by
  have e : kR (mR 277) O j n0 Q (pc + 3) L S n = kV O j n0 Q (pc + 3) L S n := kR_V
  rw [← e]; exact J_callV (As := [v1]) ce_362 (by rw [hm]) rfl rfl (by decide +kernel) rfl rfl hd
theorem ce_363 : (12, 637, 0, 278, 2223, 0) ∈ calL := by decide +kernel
theorem c_363 {O : pO} {j n0 : Nat} {Q : pQ} {pc : Nat} {L : pL} {S : List pv} {n : Nat} {M : pM} {b : Nat} {v1 v2 : pv} (hm : mO j = 12) (hd : decode (mB j) pc = .ok (.invokevirtual 637, 3)) : J O j n0 Q pc L (v2 :: v1 :: vr (b + 1) :: S) n M = (ob n b = 12 ∧ stk S ≤ 8 ∧ mo O 278 [vr (b + 1), v1, v2] n M (kI O j n0 Q (pc + 3) L S n)) := by
  have e : kR (mR 278) O j n0 Q (pc + 3) L S n = kI O j n0 Q (pc + 3) L S n := kR_I (Or.inl rfl)
  rw [← e]; exact J_callV (As := [v1, v2]) ce_363 (by rw [hm]) rfl rfl (by decide +kernel) rfl rfl hd
theorem ce_364 : (12, 624, 1, 274, 2227, 0) ∈ calL := by decide +kernel
theorem c_364 {O : pO} {j n0 : Nat} {Q : pQ} {pc : Nat} {L : pL} {S : List pv} {n : Nat} {M : pM} {v1 : pv} (hm : mO j = 12) (hd : decode (mB j) pc = .ok (.invokestatic 624, 3)) : J O j n0 Q pc L (v1 :: S) n M = (stk S ≤ 8 ∧ mo O 274 [v1] n M (kI O j n0 Q (pc + 3) L S n)) := by
  have e : kR (mR 274) O j n0 Q (pc + 3) L S n = kI O j n0 Q (pc + 3) L S n := kR_I (Or.inl rfl)
  rw [← e]; exact J_callS (As := [v1]) ce_364 (by rw [hm]) rfl rfl (by decide +kernel) rfl rfl hd
theorem ce_365 : (12, 627, 0, 275, 2230, 0) ∈ calL := by decide +kernel
theorem c_365 {O : pO} {j n0 : Nat} {Q : pQ} {pc : Nat} {L : pL} {S : List pv} {n : Nat} {M : pM} {b : Nat} {v1 v2 : pv} (hm : mO j = 12) (hd : decode (mB j) pc = .ok (.invokevirtual 627, 3)) : J O j n0 Q pc L (v2 :: v1 :: vr (b + 1) :: S) n M = (ob n b = 12 ∧ stk S ≤ 8 ∧ mo O 275 [vr (b + 1), v1, v2] n M (kI O j n0 Q (pc + 3) L S n)) := by
  have e : kR (mR 275) O j n0 Q (pc + 3) L S n = kI O j n0 Q (pc + 3) L S n := kR_I (Or.inl rfl)
  rw [← e]; exact J_callV (As := [v1, v2]) ce_365 (by rw [hm]) rfl rfl (by decide +kernel) rfl rfl hd
theorem ce_366 : (12, 630, 1, 276, 2234, 0) ∈ calL := by decide +kernel
theorem c_366 {O : pO} {j n0 : Nat} {Q : pQ} {pc : Nat} {L : pL} {S : List pv} {n : Nat} {M : pM} {v1 v2 v3 : pv} (hm : mO j = 12) (hd : decode (mB j) pc = .ok (.invokestatic 630, 3)) : J O j n0 Q pc L (v3 :: v2 :: v1 :: S) n M = (stk S ≤ 8 ∧ mo O 276 [v1, v2, v3] n M (kI O j n0 Q (pc + 3) L S n)) := by
  have e : kR (mR 276) O j n0 Q (pc + 3) L S n = kI O j n0 Q (pc + 3) L S n := kR_I (Or.inl rfl)
  rw [← e]; exact J_callS (As := [v1, v2, v3]) ce_366 (by rw [hm]) rfl rfl (by decide +kernel) rfl rfl hd
theorem ce_367 : (13, 128, 0, 280, 2237, 0) ∈ calL := by decide +kernel
theorem c_367 {O : pO} {j n0 : Nat} {Q : pQ} {pc : Nat} {L : pL} {S : List pv} {n : Nat} {M : pM} {b : Nat} {v1 v2 : pv} (hm : mO j = 13) (hd : decode (mB j) pc = .ok (.invokevirtual 128, 3)) : J O j n0 Q pc L (v2 :: v1 :: vr (b + 1) :: S) n M = (ob n b = 12 ∧ stk S ≤ 8 ∧ mo O 280 [vr (b + 1), v1, v2] n M (kI O j n0 Q (pc + 3) L S n)) := by
  have e : kR (mR 280) O j n0 Q (pc + 3) L S n = kI O j n0 Q (pc + 3) L S n := kR_I (Or.inl rfl)
  rw [← e]; exact J_callV (As := [v1, v2]) ce_367 (by rw [hm]) rfl rfl (by decide +kernel) rfl rfl hd
theorem ce_368 : (12, 640, 0, 279, 2241, 0) ∈ calL := by decide +kernel
theorem c_368 {O : pO} {j n0 : Nat} {Q : pQ} {pc : Nat} {L : pL} {S : List pv} {n : Nat} {M : pM} {b : Nat} {v1 v2 : pv} (hm : mO j = 12) (hd : decode (mB j) pc = .ok (.invokevirtual 640, 3)) : J O j n0 Q pc L (v2 :: v1 :: vr (b + 1) :: S) n M = (ob n b = 12 ∧ stk S ≤ 8 ∧ mo O 279 [vr (b + 1), v1, v2] n M (kI O j n0 Q (pc + 3) L S n)) := by
  have e : kR (mR 279) O j n0 Q (pc + 3) L S n = kI O j n0 Q (pc + 3) L S n := kR_I (Or.inl rfl)
  rw [← e]; exact J_callV (As := [v1, v2]) ce_368 (by rw [hm]) rfl rfl (by decide +kernel) rfl rfl hd
theorem ce_369 : (13, 132, 0, 282, 2242, 0) ∈ calL := by decide +kernel
theorem c_369 {O : pO} {j n0 : Nat} {Q : pQ} {pc : Nat} {L : pL} {S : List pv} {n : Nat} {M : pM} {b : Nat} {v1 : pv} (hm : mO j = 13) (hd : decode (mB j) pc = .ok (.invokevirtual 132, 3)) : J O j n0 Q pc L (v1 :: vr (b + 1) :: S) n M = (ob n b = 12 ∧ stk S ≤ 8 ∧ mo O 282 [vr (b + 1), v1] n M (kI O j n0 Q (pc + 3) L S n)) := by
  have e : kR (mR 282) O j n0 Q (pc + 3) L S n = kI O j n0 Q (pc + 3) L S n := kR_I (Or.inl rfl)
  rw [← e]; exact J_callV (As := [v1]) ce_369 (by rw [hm]) rfl rfl (by decide +kernel) rfl rfl hd
theorem ce_370 : (13, 136, 0, 283, 2246, 0) ∈ calL := by decide +kernel
theorem c_370 {O : pO} {j n0 : Nat} {Q : pQ} {pc : Nat} {L : pL} {S : List pv} {n : Nat} {M : pM} {b : Nat} (hm : mO j = 13) (hd : decode (mB j) pc = .ok (.invokevirtual 136, 3)) : J O j n0 Q pc L (vr (b + 1) :: S) n M = (ob n b = 12 ∧ stk S ≤ 8 ∧ mo O 283 [vr (b + 1)] n M (kI O j n0 Q (pc + 3) L S n)) := by
  have e : kR (mR 283) O j n0 Q (pc + 3) L S n = kI O j n0 Q (pc + 3) L S n := kR_I (Or.inl rfl)
  rw [← e]; exact J_callV (As := []) ce_370 (by rw [hm]) rfl rfl (by decide +kernel) rfl rfl hd
theorem ce_371 : (13, 140, 0, 284, 2250, 0) ∈ calL := by decide +kernel
theorem c_371 {O : pO} {j n0 : Nat} {Q : pQ} {pc : Nat} {L : pL} {S : List pv} {n : Nat} {M : pM} {b : Nat} {v1 v2 : pv} (hm : mO j = 13) (hd : decode (mB j) pc = .ok (.invokevirtual 140, 3)) : J O j n0 Q pc L (v2 :: v1 :: vr (b + 1) :: S) n M = (ob n b = 12 ∧ stk S ≤ 8 ∧ mo O 284 [vr (b + 1), v1, v2] n M (kI O j n0 Q (pc + 3) L S n)) := by
  have e : kR (mR 284) O j n0 Q (pc + 3) L S n = kI O j n0 Q (pc + 3) L S n := kR_I (Or.inl rfl)
  rw [← e]; exact J_callV (As := [v1, v2]) ce_371 (by rw [hm]) rfl rfl (by decide +kernel) rfl rfl hd
theorem ce_372 : (13, 144, 0, 287, 2254, 0) ∈ calL := by decide +kernel
theorem c_372 {O : pO} {j n0 : Nat} {Q : pQ} {pc : Nat} {L : pL} {S : List pv} {n : Nat} {M : pM} {b : Nat} {v1 v2 : pv} (hm : mO j = 13) (hd : decode (mB j) pc = .ok (.invokevirtual 144, 3)) : J O j n0 Q pc L (v2 :: v1 :: vr (b + 1) :: S) n M = (ob n b = 12 ∧ stk S ≤ 8 ∧ mo O 287 [vr (b + 1), v1, v2] n M (kI O j n0 Q (pc + 3) L S n)) := by
  have e : kR (mR 287) O j n0 Q (pc + 3) L S n = kI O j n0 Q (pc + 3) L S n := kR_I (Or.inl rfl)
  rw [← e]; exact J_callV (As := [v1, v2]) ce_372 (by rw [hm]) rfl rfl (by decide +kernel) rfl rfl hd
theorem ce_373 : (12, 646, 0, 285, 2258, 0) ∈ calL := by decide +kernel
theorem c_373 {O : pO} {j n0 : Nat} {Q : pQ} {pc : Nat} {L : pL} {S : List pv} {n : Nat} {M : pM} {b : Nat} {v1 v2 : pv} (hm : mO j = 12) (hd : decode (mB j) pc = .ok (.invokevirtual 646, 3)) : J O j n0 Q pc L (v2 :: v1 :: vr (b + 1) :: S) n M = (ob n b = 12 ∧ stk S ≤ 8 ∧ mo O 285 [vr (b + 1), v1, v2] n M (kI O j n0 Q (pc + 3) L S n)) := by
  have e : kR (mR 285) O j n0 Q (pc + 3) L S n = kI O j n0 Q (pc + 3) L S n := kR_I (Or.inl rfl)
  rw [← e]; exact J_callV (As := [v1, v2]) ce_373 (by rw [hm]) rfl rfl (by decide +kernel) rfl rfl hd
theorem ce_374 : (12, 643, 0, 286, 2262, 0) ∈ calL := by decide +kernel
theorem c_374 {O : pO} {j n0 : Nat} {Q : pQ} {pc : Nat} {L : pL} {S : List pv} {n : Nat} {M : pM} {b : Nat} {v1 v2 v3 : pv} (hm : mO j = 12) (hd : decode (mB j) pc = .ok (.invokevirtual 643, 3)) : J O j n0 Q pc L (v3 :: v2 :: v1 :: vr (b + 1) :: S) n M = (ob n b = 12 ∧ stk S ≤ 8 ∧ mo O 286 [vr (b + 1), v1, v2, v3] n M (kI O j n0 Q (pc + 3) L S n)) := by
  have e : kR (mR 286) O j n0 Q (pc + 3) L S n = kI O j n0 Q (pc + 3) L S n := kR_I (Or.inl rfl)
  rw [← e]; exact J_callV (As := [v1, v2, v3]) ce_374 (by rw [hm]) rfl rfl (by decide +kernel) rfl rfl hd
theorem ce_375 : (13, 148, 0, 288, 2266, 0) ∈ calL := by decide +kernel
theorem c_375 {O : pO} {j n0 : Nat} {Q : pQ} {pc : Nat} {L : pL} {S : List pv} {n : Nat} {M : pM} {b : Nat} {v1 v2 v3 : pv} (hm : mO j = 13) (hd : decode (mB j) pc = .ok (.invokevirtual 148, 3)) : J O j n0 Q pc L (v3 :: v2 :: v1 :: vr (b + 1) :: S) n M = (ob n b = 12 ∧ stk S ≤ 8 ∧ mo O 288 [vr (b + 1), v1, v2, v3] n M (kI O j n0 Q (pc + 3) L S n)) := by
  have e : kR (mR 288) O j n0 Q (pc + 3) L S n = kI O j n0 Q (pc + 3) L S n := kR_I (Or.inl rfl)
  rw [← e]; exact J_callV (As := [v1, v2, v3]) ce_375 (by rw [hm]) rfl rfl (by decide +kernel) rfl rfl hd
theorem ce_376 : (13, 152, 0, 289, 2270, 0) ∈ calL := by decide +kernel
theorem c_376 {O : pO} {j n0 : Nat} {Q : pQ} {pc : Nat} {L : pL} {S : List pv} {n : Nat} {M : pM} {b : Nat} {v1 : pv} (hm : mO j = 13) (hd : decode (mB j) pc = .ok (.invokevirtual 152, 3)) : J O j n0 Q pc L (v1 :: vr (b + 1) :: S) n M = (ob n b = 12 ∧ stk S ≤ 8 ∧ mo O 289 [vr (b + 1), v1] n M (kI O j n0 Q (pc + 3) L S n)) := by
  have e : kR (mR 289) O j n0 Q (pc + 3) L S n = kI O j n0 Q (pc + 3) L S n := kR_I (Or.inl rfl)
  rw [← e]; exact J_callV (As := [v1]) ce_376 (by rw [hm]) rfl rfl (by decide +kernel) rfl rfl hd
theorem ce_377 : (13, 17, 0, 290, 2274, 0) ∈ calL := by decide +kernel
theorem c_377 {O : pO} {j n0 : Nat} {Q : pQ} {pc : Nat} {L : pL} {S : List pv} {n : Nat} {M : pM} {b : Nat} {v1 v2 v3 v4 v5 : pv} (hm : mO j = 13) (hd : decode (mB j) pc = .ok (.invokevirtual 17, 3)) : J O j n0 Q pc L (v5 :: v4 :: v3 :: v2 :: v1 :: vr (b + 1) :: S) n M = (ob n b = 12 ∧ stk S ≤ 8 ∧ mo O 290 [vr (b + 1), v1, v2, v3, v4, v5] n M (kI O j n0 Q (pc + 3) L S n)) := by
  have e : kR (mR 290) O j n0 Q (pc + 3) L S n = kI O j n0 Q (pc + 3) L S n := kR_I (Or.inl rfl)
  rw [← e]; exact J_callV (As := [v1, v2, v3, v4, v5]) ce_377 (by rw [hm]) rfl rfl (by decide +kernel) rfl rfl hd
theorem ce_378 : (13, 22, 0, 291, 2278, 0) ∈ calL := by decide +kernel
theorem c_378 {O : pO} {j n0 : Nat} {Q : pQ} {pc : Nat} {L : pL} {S : List pv} {n : Nat} {M : pM} {b : Nat} {v1 : pv} (hm : mO j = 13) (hd : decode (mB j) pc = .ok (.invokevirtual 22, 3)) : J O j n0 Q pc L (v1 :: vr (b + 1) :: S) n M = (ob n b = 12 ∧ stk S ≤ 8 ∧ mo O 291 [vr (b + 1), v1] n M (kI O j n0 Q (pc + 3) L S n)) := by
  have e : kR (mR 291) O j n0 Q (pc + 3) L S n = kI O j n0 Q (pc + 3) L S n := kR_I (Or.inl rfl)
  rw [← e]; exact J_callV (As := [v1]) ce_378 (by rw [hm]) rfl rfl (by decide +kernel) rfl rfl hd
theorem nw_0 {O : pO} {j n0 : Nat} {Q : pQ} {pc : Nat} {L : pL} {S : List pv} {n : Nat} {M : pM} (hm : mO j = 13) (hd : decode (mB j) pc = .ok (.new 7, 3)) : J O j n0 Q pc L S n M = (n < 119 ∧ n + 1 ≤ n0 + mC j ∧ SH n = .inl 11 ∧ J O j n0 Q (pc + 3) L (vr (n + 1) :: S) (n + 1) (zr M n)) := J_new (q := (13, 7, 11, 16, 211, 212, 188)) (by decide +kernel) (by rw [hm]) hd
theorem nw_1 {O : pO} {j n0 : Nat} {Q : pQ} {pc : Nat} {L : pL} {S : List pv} {n : Nat} {M : pM} (hm : mO j = 11) (hd : decode (mB j) pc = .ok (.new 13, 3)) : J O j n0 Q pc L S n M = (n < 119 ∧ n + 1 ≤ n0 + mC j ∧ SH n = .inl 7 ∧ J O j n0 Q (pc + 3) L (vr (n + 1) :: S) (n + 1) (zr M n)) := J_new (q := (11, 13, 7, 9, 219, 220, 189)) (by decide +kernel) (by rw [hm]) hd
theorem nw_2 {O : pO} {j n0 : Nat} {Q : pQ} {pc : Nat} {L : pL} {S : List pv} {n : Nat} {M : pM} (hm : mO j = 11) (hd : decode (mB j) pc = .ok (.new 22, 3)) : J O j n0 Q pc L S n M = (n < 119 ∧ n + 1 ≤ n0 + mC j ∧ SH n = .inl 4 ∧ J O j n0 Q (pc + 3) L (vr (n + 1) :: S) (n + 1) (zr M n)) := J_new (q := (11, 22, 4, 15, 260, 261, 190)) (by decide +kernel) (by rw [hm]) hd
theorem nw_3 {O : pO} {j n0 : Nat} {Q : pQ} {pc : Nat} {L : pL} {S : List pv} {n : Nat} {M : pM} (hm : mO j = 11) (hd : decode (mB j) pc = .ok (.new 32, 3)) : J O j n0 Q pc L S n M = (n < 119 ∧ n + 1 ≤ n0 + mC j ∧ SH n = .inl 5 ∧ J O j n0 Q (pc + 3) L (vr (n + 1) :: S) (n + 1) (zr M n)) := J_new (q := (11, 32, 5, 2, 340, 341, 192)) (by decide +kernel) (by rw [hm]) hd
theorem nw_4 {O : pO} {j n0 : Nat} {Q : pQ} {pc : Nat} {L : pL} {S : List pv} {n : Nat} {M : pM} (hm : mO j = 11) (hd : decode (mB j) pc = .ok (.new 41, 3)) : J O j n0 Q pc L S n M = (n < 119 ∧ n + 1 ≤ n0 + mC j ∧ SH n = .inl 3 ∧ J O j n0 Q (pc + 3) L (vr (n + 1) :: S) (n + 1) (zr M n)) := J_new (q := (11, 41, 3, 7, 353, 354, 193)) (by decide +kernel) (by rw [hm]) hd
theorem nw_5 {O : pO} {j n0 : Nat} {Q : pQ} {pc : Nat} {L : pL} {S : List pv} {n : Nat} {M : pM} (hm : mO j = 11) (hd : decode (mB j) pc = .ok (.new 54, 3)) : J O j n0 Q pc L S n M = (n < 119 ∧ n + 1 ≤ n0 + mC j ∧ SH n = .inl 0 ∧ J O j n0 Q (pc + 3) L (vr (n + 1) :: S) (n + 1) (zr M n)) := J_new (q := (11, 54, 0, 3, 382, 383, 194)) (by decide +kernel) (by rw [hm]) hd
theorem nw_6 {O : pO} {j n0 : Nat} {Q : pQ} {pc : Nat} {L : pL} {S : List pv} {n : Nat} {M : pM} (hm : mO j = 11) (hd : decode (mB j) pc = .ok (.new 61, 3)) : J O j n0 Q pc L S n M = (n < 119 ∧ n + 1 ≤ n0 + mC j ∧ SH n = .inl 1 ∧ J O j n0 Q (pc + 3) L (vr (n + 1) :: S) (n + 1) (zr M n)) := J_new (q := (11, 61, 1, 17, 402, 403, 195)) (by decide +kernel) (by rw [hm]) hd
theorem nw_7 {O : pO} {j n0 : Nat} {Q : pQ} {pc : Nat} {L : pL} {S : List pv} {n : Nat} {M : pM} (hm : mO j = 1) (hd : decode (mB j) pc = .ok (.new 25, 3)) : J O j n0 Q pc L S n M = (n < 119 ∧ n + 1 ≤ n0 + mC j ∧ SH n = .inl 0 ∧ J O j n0 Q (pc + 3) L (vr (n + 1) :: S) (n + 1) (zr M n)) := J_new (q := (1, 25, 0, 3, 408, 383, 194)) (by decide +kernel) (by rw [hm]) hd
theorem nw_8 {O : pO} {j n0 : Nat} {Q : pQ} {pc : Nat} {L : pL} {S : List pv} {n : Nat} {M : pM} (hm : mO j = 11) (hd : decode (mB j) pc = .ok (.new 70, 3)) : J O j n0 Q pc L S n M = (n < 119 ∧ n + 1 ≤ n0 + mC j ∧ SH n = .inl 2 ∧ J O j n0 Q (pc + 3) L (vr (n + 1) :: S) (n + 1) (zr M n)) := J_new (q := (11, 70, 2, 9, 472, 473, 196)) (by decide +kernel) (by rw [hm]) hd
theorem nw_9 {O : pO} {j n0 : Nat} {Q : pQ} {pc : Nat} {L : pL} {S : List pv} {n : Nat} {M : pM} (hm : mO j = 11) (hd : decode (mB j) pc = .ok (.new 77, 3)) : J O j n0 Q pc L S n M = (n < 119 ∧ n + 1 ≤ n0 + mC j ∧ SH n = .inl 9 ∧ J O j n0 Q (pc + 3) L (vr (n + 1) :: S) (n + 1) (zr M n)) := J_new (q := (11, 77, 9, 10, 507, 508, 197)) (by decide +kernel) (by rw [hm]) hd
theorem nw_10 {O : pO} {j n0 : Nat} {Q : pQ} {pc : Nat} {L : pL} {S : List pv} {n : Nat} {M : pM} (hm : mO j = 11) (hd : decode (mB j) pc = .ok (.new 84, 3)) : J O j n0 Q pc L S n M = (n < 119 ∧ n + 1 ≤ n0 + mC j ∧ SH n = .inl 8 ∧ J O j n0 Q (pc + 3) L (vr (n + 1) :: S) (n + 1) (zr M n)) := J_new (q := (11, 84, 8, 7, 554, 555, 198)) (by decide +kernel) (by rw [hm]) hd
theorem nw_11 {O : pO} {j n0 : Nat} {Q : pQ} {pc : Nat} {L : pL} {S : List pv} {n : Nat} {M : pM} (hm : mO j = 11) (hd : decode (mB j) pc = .ok (.new 91, 3)) : J O j n0 Q pc L S n M = (n < 119 ∧ n + 1 ≤ n0 + mC j ∧ SH n = .inl 6 ∧ J O j n0 Q (pc + 3) L (vr (n + 1) :: S) (n + 1) (zr M n)) := J_new (q := (11, 91, 6, 1, 585, 586, 199)) (by decide +kernel) (by rw [hm]) hd
theorem nw_12 {O : pO} {j n0 : Nat} {Q : pQ} {pc : Nat} {L : pL} {S : List pv} {n : Nat} {M : pM} (hm : mO j = 11) (hd : decode (mB j) pc = .ok (.new 98, 3)) : J O j n0 Q pc L S n M = (n < 119 ∧ n + 1 ≤ n0 + mC j ∧ SH n = .inl 10 ∧ J O j n0 Q (pc + 3) L (vr (n + 1) :: S) (n + 1) (zr M n)) := J_new (q := (11, 98, 10, 7, 595, 596, 200)) (by decide +kernel) (by rw [hm]) hd
theorem nw_13 {O : pO} {j n0 : Nat} {Q : pQ} {pc : Nat} {L : pL} {S : List pv} {n : Nat} {M : pM} (hm : mO j = 13) (hd : decode (mB j) pc = .ok (.new 10, 3)) : J O j n0 Q pc L S n M = (n < 119 ∧ n + 1 ≤ n0 + mC j ∧ SH n = .inl 12 ∧ J O j n0 Q (pc + 3) L (vr (n + 1) :: S) (n + 1) (zr M n)) := J_new (q := (13, 10, 12, 100, 1490, 1491, 201)) (by decide +kernel) (by rw [hm]) hd
theorem oi_0 {O : pO} {j n0 : Nat} {Q : pQ} {pc : Nat} {L : pL} {S : List pv} {n : Nat} {M : pM} {b : Nat} (hm : mO j = 11) (hd : decode (mB j) pc = .ok (.invokespecial 1, 3)) : J O j n0 Q pc L (vr (b + 1) :: S) n M = (stk S ≤ 8 ∧ J O j n0 Q (pc + 3) L S n M) := J_objE (q := (11, 1, 216)) (by decide +kernel) (by rw [hm]) (by rw [hm]; decide +kernel) hd
theorem oi_1 {O : pO} {j n0 : Nat} {Q : pQ} {pc : Nat} {L : pL} {S : List pv} {n : Nat} {M : pM} {b : Nat} (hm : mO j = 7) (hd : decode (mB j) pc = .ok (.invokespecial 3, 3)) : J O j n0 Q pc L (vr (b + 1) :: S) n M = (stk S ≤ 8 ∧ J O j n0 Q (pc + 3) L S n M) := J_objE (q := (7, 3, 224)) (by decide +kernel) (by rw [hm]) (by rw [hm]; decide +kernel) hd
theorem oi_2 {O : pO} {j n0 : Nat} {Q : pQ} {pc : Nat} {L : pL} {S : List pv} {n : Nat} {M : pM} {b : Nat} (hm : mO j = 4) (hd : decode (mB j) pc = .ok (.invokespecial 3, 3)) : J O j n0 Q pc L (vr (b + 1) :: S) n M = (stk S ≤ 8 ∧ J O j n0 Q (pc + 3) L S n M) := J_objE (q := (4, 3, 265)) (by decide +kernel) (by rw [hm]) (by rw [hm]; decide +kernel) hd
theorem oi_3 {O : pO} {j n0 : Nat} {Q : pQ} {pc : Nat} {L : pL} {S : List pv} {n : Nat} {M : pM} {b : Nat} (hm : mO j = 5) (hd : decode (mB j) pc = .ok (.invokespecial 3, 3)) : J O j n0 Q pc L (vr (b + 1) :: S) n M = (stk S ≤ 8 ∧ J O j n0 Q (pc + 3) L S n M) := J_objE (q := (5, 3, 345)) (by decide +kernel) (by rw [hm]) (by rw [hm]; decide +kernel) hd
theorem oi_4 {O : pO} {j n0 : Nat} {Q : pQ} {pc : Nat} {L : pL} {S : List pv} {n : Nat} {M : pM} {b : Nat} (hm : mO j = 3) (hd : decode (mB j) pc = .ok (.invokespecial 3, 3)) : J O j n0 Q pc L (vr (b + 1) :: S) n M = (stk S ≤ 8 ∧ J O j n0 Q (pc + 3) L S n M) := J_objE (q := (3, 3, 358)) (by decide +kernel) (by rw [hm]) (by rw [hm]; decide +kernel) hd
theorem oi_5 {O : pO} {j n0 : Nat} {Q : pQ} {pc : Nat} {L : pL} {S : List pv} {n : Nat} {M : pM} {b : Nat} (hm : mO j = 0) (hd : decode (mB j) pc = .ok (.invokespecial 3, 3)) : J O j n0 Q pc L (vr (b + 1) :: S) n M = (stk S ≤ 8 ∧ J O j n0 Q (pc + 3) L S n M) := J_objE (q := (0, 3, 387)) (by decide +kernel) (by rw [hm]) (by rw [hm]; decide +kernel) hd
theorem oi_6 {O : pO} {j n0 : Nat} {Q : pQ} {pc : Nat} {L : pL} {S : List pv} {n : Nat} {M : pM} {b : Nat} (hm : mO j = 1) (hd : decode (mB j) pc = .ok (.invokespecial 5, 3)) : J O j n0 Q pc L (vr (b + 1) :: S) n M = (stk S ≤ 8 ∧ J O j n0 Q (pc + 3) L S n M) := J_objE (q := (1, 5, 407)) (by decide +kernel) (by rw [hm]) (by rw [hm]; decide +kernel) hd
theorem oi_7 {O : pO} {j n0 : Nat} {Q : pQ} {pc : Nat} {L : pL} {S : List pv} {n : Nat} {M : pM} {b : Nat} (hm : mO j = 2) (hd : decode (mB j) pc = .ok (.invokespecial 3, 3)) : J O j n0 Q pc L (vr (b + 1) :: S) n M = (stk S ≤ 8 ∧ J O j n0 Q (pc + 3) L S n M) := J_objE (q := (2, 3, 477)) (by decide +kernel) (by rw [hm]) (by rw [hm]; decide +kernel) hd
theorem oi_8 {O : pO} {j n0 : Nat} {Q : pQ} {pc : Nat} {L : pL} {S : List pv} {n : Nat} {M : pM} {b : Nat} (hm : mO j = 9) (hd : decode (mB j) pc = .ok (.invokespecial 3, 3)) : J O j n0 Q pc L (vr (b + 1) :: S) n M = (stk S ≤ 8 ∧ J O j n0 Q (pc + 3) L S n M) := J_objE (q := (9, 3, 512)) (by decide +kernel) (by rw [hm]) (by rw [hm]; decide +kernel) hd
theorem oi_9 {O : pO} {j n0 : Nat} {Q : pQ} {pc : Nat} {L : pL} {S : List pv} {n : Nat} {M : pM} {b : Nat} (hm : mO j = 8) (hd : decode (mB j) pc = .ok (.invokespecial 3, 3)) : J O j n0 Q pc L (vr (b + 1) :: S) n M = (stk S ≤ 8 ∧ J O j n0 Q (pc + 3) L S n M) := J_objE (q := (8, 3, 559)) (by decide +kernel) (by rw [hm]) (by rw [hm]; decide +kernel) hd
theorem oi_10 {O : pO} {j n0 : Nat} {Q : pQ} {pc : Nat} {L : pL} {S : List pv} {n : Nat} {M : pM} {b : Nat} (hm : mO j = 6) (hd : decode (mB j) pc = .ok (.invokespecial 3, 3)) : J O j n0 Q pc L (vr (b + 1) :: S) n M = (stk S ≤ 8 ∧ J O j n0 Q (pc + 3) L S n M) := J_objE (q := (6, 3, 590)) (by decide +kernel) (by rw [hm]) (by rw [hm]; decide +kernel) hd
theorem oi_11 {O : pO} {j n0 : Nat} {Q : pQ} {pc : Nat} {L : pL} {S : List pv} {n : Nat} {M : pM} {b : Nat} (hm : mO j = 10) (hd : decode (mB j) pc = .ok (.invokespecial 3, 3)) : J O j n0 Q pc L (vr (b + 1) :: S) n M = (stk S ≤ 8 ∧ J O j n0 Q (pc + 3) L S n M) := J_objE (q := (10, 3, 600)) (by decide +kernel) (by rw [hm]) (by rw [hm]; decide +kernel) hd
theorem oi_12 {O : pO} {j n0 : Nat} {Q : pQ} {pc : Nat} {L : pL} {S : List pv} {n : Nat} {M : pM} {b : Nat} (hm : mO j = 12) (hd : decode (mB j) pc = .ok (.invokespecial 164, 3)) : J O j n0 Q pc L (vr (b + 1) :: S) n M = (stk S ≤ 8 ∧ J O j n0 Q (pc + 3) L S n M) := J_objE (q := (12, 164, 1495)) (by decide +kernel) (by rw [hm]) (by rw [hm]; decide +kernel) hd
theorem gs_0 {O : pO} {j n0 : Nat} {Q : pQ} {pc : Nat} {L : pL} {S : List pv} {n : Nat} {M : pM} (hm : mO j = 11) (hd : decode (mB j) pc = .ok (.getstatic 341, 3)) : J O j n0 Q pc L S n M = J O j n0 Q (pc + 3) L (vr 1001 :: S) n M := J_gs (q := (11, 341, 0, 413)) (by decide +kernel) (by rw [hm]) hd
theorem gs_1 {O : pO} {j n0 : Nat} {Q : pQ} {pc : Nat} {L : pL} {S : List pv} {n : Nat} {M : pM} (hm : mO j = 11) (hd : decode (mB j) pc = .ok (.getstatic 344, 3)) : J O j n0 Q pc L S n M = J O j n0 Q (pc + 3) L (vr 1002 :: S) n M := J_gs (q := (11, 344, 1, 415)) (by decide +kernel) (by rw [hm]) hd
theorem gs_2 {O : pO} {j n0 : Nat} {Q : pQ} {pc : Nat} {L : pL} {S : List pv} {n : Nat} {M : pM} (hm : mO j = 4) (hd : decode (mB j) pc = .ok (.getstatic 83, 3)) : J O j n0 Q pc L S n M = J O j n0 Q (pc + 3) L (vr 1001 :: S) n M := J_gs (q := (4, 83, 0, 1070)) (by decide +kernel) (by rw [hm]) hd
theorem gs_3 {O : pO} {j n0 : Nat} {Q : pQ} {pc : Nat} {L : pL} {S : List pv} {n : Nat} {M : pM} (hm : mO j = 4) (hd : decode (mB j) pc = .ok (.getstatic 86, 3)) : J O j n0 Q pc L S n M = J O j n0 Q (pc + 3) L (vr 1002 :: S) n M := J_gs (q := (4, 86, 1, 1071)) (by decide +kernel) (by rw [hm]) hd
theorem cn_0 {O : pO} {j n0 : Nat} {Q : pQ} {pc : Nat} {L : pL} {S : List pv} {n : Nat} {M : pM} (hm : mO j = 16) (hd : decode (mB j) pc = .ok (.ldc 227, 2)) : J O j n0 Q pc L S n M = J O j n0 Q (pc + 2) L (vi 65536 :: S) n M := J_ldc (q := (16, 227, 65536, 799)) (by decide +kernel) (by rw [hm]) hd
theorem cn_1 {O : pO} {j n0 : Nat} {Q : pQ} {pc : Nat} {L : pL} {S : List pv} {n : Nat} {M : pM} (hm : mO j = 22) (hd : decode (mB j) pc = .ok (.ldc 110, 2)) : J O j n0 Q pc L S n M = J O j n0 Q (pc + 2) L (vi 55232 :: S) n M := J_ldc (q := (22, 110, 55232, 824)) (by decide +kernel) (by rw [hm]) hd
theorem cn_2 {O : pO} {j n0 : Nat} {Q : pQ} {pc : Nat} {L : pL} {S : List pv} {n : Nat} {M : pM} (hm : mO j = 22) (hd : decode (mB j) pc = .ok (.ldc 76, 2)) : J O j n0 Q pc L S n M = J O j n0 Q (pc + 2) L (vi 56320 :: S) n M := J_ldc (q := (22, 76, 56320, 828)) (by decide +kernel) (by rw [hm]) hd
theorem cn_3 {O : pO} {j n0 : Nat} {Q : pQ} {pc : Nat} {L : pL} {S : List pv} {n : Nat} {M : pM} (hm : mO j = 9) (hd : decode (mB j) pc = .ok (.ldc 43, 2)) : J O j n0 Q pc L S n M = J O j n0 Q (pc + 2) L (vi 100000 :: S) n M := J_ldc (q := (9, 43, 100000, 1288)) (by decide +kernel) (by rw [hm]) hd
theorem cn_4 {O : pO} {j n0 : Nat} {Q : pQ} {pc : Nat} {L : pL} {S : List pv} {n : Nat} {M : pM} (hm : mO j = 18) (hd : decode (mB j) pc = .ok (.ldc 265, 2)) : J O j n0 Q pc L S n M = J O j n0 Q (pc + 2) L (vi 1431655765 :: S) n M := J_ldc (q := (18, 265, 1431655765, 1405)) (by decide +kernel) (by rw [hm]) hd
theorem cn_5 {O : pO} {j n0 : Nat} {Q : pQ} {pc : Nat} {L : pL} {S : List pv} {n : Nat} {M : pM} (hm : mO j = 18) (hd : decode (mB j) pc = .ok (.ldc 266, 2)) : J O j n0 Q pc L S n M = J O j n0 Q (pc + 2) L (vi 858993459 :: S) n M := J_ldc (q := (18, 266, 858993459, 1406)) (by decide +kernel) (by rw [hm]) hd
theorem cn_6 {O : pO} {j n0 : Nat} {Q : pQ} {pc : Nat} {L : pL} {S : List pv} {n : Nat} {M : pM} (hm : mO j = 18) (hd : decode (mB j) pc = .ok (.ldc 267, 2)) : J O j n0 Q pc L S n M = J O j n0 Q (pc + 2) L (vi 252645135 :: S) n M := J_ldc (q := (18, 267, 252645135, 1407)) (by decide +kernel) (by rw [hm]) hd
theorem cn_7 {O : pO} {j n0 : Nat} {Q : pQ} {pc : Nat} {L : pL} {S : List pv} {n : Nat} {M : pM} (hm : mO j = 10) (hd : decode (mB j) pc = .ok (.ldc 35, 2)) : J O j n0 Q pc L S n M = J O j n0 Q (pc + 2) L (vi 1000000 :: S) n M := J_ldc (q := (10, 35, 1000000, 1459)) (by decide +kernel) (by rw [hm]) hd
theorem cn_8 {O : pO} {j n0 : Nat} {Q : pQ} {pc : Nat} {L : pL} {S : List pv} {n : Nat} {M : pM} (hm : mO j = 12) (hd : decode (mB j) pc = .ok (.ldc 203, 2)) : J O j n0 Q pc L S n M = J O j n0 Q (pc + 2) L (vi 388352 :: S) n M := J_ldc (q := (12, 203, 388352, 1496)) (by decide +kernel) (by rw [hm]) hd
theorem cn_9 {O : pO} {j n0 : Nat} {Q : pQ} {pc : Nat} {L : pL} {S : List pv} {n : Nat} {M : pM} (hm : mO j = 12) (hd : decode (mB j) pc = .ok (.ldc 216, 2)) : J O j n0 Q pc L S n M = J O j n0 Q (pc + 2) L (vi 97088 :: S) n M := J_ldc (q := (12, 216, 97088, 1497)) (by decide +kernel) (by rw [hm]) hd
theorem cn_10 {O : pO} {j n0 : Nat} {Q : pQ} {pc : Nat} {L : pL} {S : List pv} {n : Nat} {M : pM} (hm : mO j = 12) (hd : decode (mB j) pc = .ok (.ldc 509, 2)) : J O j n0 Q pc L S n M = J O j n0 Q (pc + 2) L (vi 100000 :: S) n M := J_ldc (q := (12, 509, 100000, 1506)) (by decide +kernel) (by rw [hm]) hd
theorem cnw_0 {O : pO} {j n0 : Nat} {Q : pQ} {pc : Nat} {L : pL} {S : List pv} {n : Nat} {M : pM} (hm : mO j = 16) (hd : decode (mB j) pc = .ok (.ldc_w 227, 3)) : J O j n0 Q pc L S n M = J O j n0 Q (pc + 3) L (vi 65536 :: S) n M := J_ldc_w (q := (16, 227, 65536, 799)) (by decide +kernel) (by rw [hm]) hd
theorem cnw_1 {O : pO} {j n0 : Nat} {Q : pQ} {pc : Nat} {L : pL} {S : List pv} {n : Nat} {M : pM} (hm : mO j = 22) (hd : decode (mB j) pc = .ok (.ldc_w 110, 3)) : J O j n0 Q pc L S n M = J O j n0 Q (pc + 3) L (vi 55232 :: S) n M := J_ldc_w (q := (22, 110, 55232, 824)) (by decide +kernel) (by rw [hm]) hd
theorem cnw_2 {O : pO} {j n0 : Nat} {Q : pQ} {pc : Nat} {L : pL} {S : List pv} {n : Nat} {M : pM} (hm : mO j = 22) (hd : decode (mB j) pc = .ok (.ldc_w 76, 3)) : J O j n0 Q pc L S n M = J O j n0 Q (pc + 3) L (vi 56320 :: S) n M := J_ldc_w (q := (22, 76, 56320, 828)) (by decide +kernel) (by rw [hm]) hd
theorem cnw_3 {O : pO} {j n0 : Nat} {Q : pQ} {pc : Nat} {L : pL} {S : List pv} {n : Nat} {M : pM} (hm : mO j = 9) (hd : decode (mB j) pc = .ok (.ldc_w 43, 3)) : J O j n0 Q pc L S n M = J O j n0 Q (pc + 3) L (vi 100000 :: S) n M := J_ldc_w (q := (9, 43, 100000, 1288)) (by decide +kernel) (by rw [hm]) hd
theorem cnw_4 {O : pO} {j n0 : Nat} {Q : pQ} {pc : Nat} {L : pL} {S : List pv} {n : Nat} {M : pM} (hm : mO j = 18) (hd : decode (mB j) pc = .ok (.ldc_w 265, 3)) : J O j n0 Q pc L S n M = J O j n0 Q (pc + 3) L (vi 1431655765 :: S) n M := J_ldc_w (q := (18, 265, 1431655765, 1405)) (by decide +kernel) (by rw [hm]) hd
theorem cnw_5 {O : pO} {j n0 : Nat} {Q : pQ} {pc : Nat} {L : pL} {S : List pv} {n : Nat} {M : pM} (hm : mO j = 18) (hd : decode (mB j) pc = .ok (.ldc_w 266, 3)) : J O j n0 Q pc L S n M = J O j n0 Q (pc + 3) L (vi 858993459 :: S) n M := J_ldc_w (q := (18, 266, 858993459, 1406)) (by decide +kernel) (by rw [hm]) hd
theorem cnw_6 {O : pO} {j n0 : Nat} {Q : pQ} {pc : Nat} {L : pL} {S : List pv} {n : Nat} {M : pM} (hm : mO j = 18) (hd : decode (mB j) pc = .ok (.ldc_w 267, 3)) : J O j n0 Q pc L S n M = J O j n0 Q (pc + 3) L (vi 252645135 :: S) n M := J_ldc_w (q := (18, 267, 252645135, 1407)) (by decide +kernel) (by rw [hm]) hd
theorem cnw_7 {O : pO} {j n0 : Nat} {Q : pQ} {pc : Nat} {L : pL} {S : List pv} {n : Nat} {M : pM} (hm : mO j = 10) (hd : decode (mB j) pc = .ok (.ldc_w 35, 3)) : J O j n0 Q pc L S n M = J O j n0 Q (pc + 3) L (vi 1000000 :: S) n M := J_ldc_w (q := (10, 35, 1000000, 1459)) (by decide +kernel) (by rw [hm]) hd
theorem cnw_8 {O : pO} {j n0 : Nat} {Q : pQ} {pc : Nat} {L : pL} {S : List pv} {n : Nat} {M : pM} (hm : mO j = 12) (hd : decode (mB j) pc = .ok (.ldc_w 203, 3)) : J O j n0 Q pc L S n M = J O j n0 Q (pc + 3) L (vi 388352 :: S) n M := J_ldc_w (q := (12, 203, 388352, 1496)) (by decide +kernel) (by rw [hm]) hd
theorem cnw_9 {O : pO} {j n0 : Nat} {Q : pQ} {pc : Nat} {L : pL} {S : List pv} {n : Nat} {M : pM} (hm : mO j = 12) (hd : decode (mB j) pc = .ok (.ldc_w 216, 3)) : J O j n0 Q pc L S n M = J O j n0 Q (pc + 3) L (vi 97088 :: S) n M := J_ldc_w (q := (12, 216, 97088, 1497)) (by decide +kernel) (by rw [hm]) hd
theorem cnw_10 {O : pO} {j n0 : Nat} {Q : pQ} {pc : Nat} {L : pL} {S : List pv} {n : Nat} {M : pM} (hm : mO j = 12) (hd : decode (mB j) pc = .ok (.ldc_w 509, 3)) : J O j n0 Q pc L S n M = J O j n0 Q (pc + 3) L (vi 100000 :: S) n M := J_ldc_w (q := (12, 509, 100000, 1506)) (by decide +kernel) (by rw [hm]) hd
theorem cln_0 {O : pO} {j n0 : Nat} {Q : pQ} {pc : Nat} {L : pL} {S : List pv} {n : Nat} {M : pM} (hm : mO j = 7) (hd : decode (mB j) pc = .ok (.ldc2_w 76, 3)) : J O j n0 Q pc L S n M = J O j n0 Q (pc + 3) L (vl 32 :: S) n M := J_ldc2_w (q := (7, 76, 32, 912)) (by decide +kernel) (by rw [hm]) hd
theorem cln_1 {O : pO} {j n0 : Nat} {Q : pQ} {pc : Nat} {L : pL} {S : List pv} {n : Nat} {M : pM} (hm : mO j = 1) (hd : decode (mB j) pc = .ok (.ldc2_w 117, 3)) : J O j n0 Q pc L S n M = J O j n0 Q (pc + 3) L (vl 2 :: S) n M := J_ldc2_w (q := (1, 117, 2, 1147)) (by decide +kernel) (by rw [hm]) hd
theorem cln_2 {O : pO} {j n0 : Nat} {Q : pQ} {pc : Nat} {L : pL} {S : List pv} {n : Nat} {M : pM} (hm : mO j = 1) (hd : decode (mB j) pc = .ok (.ldc2_w 129, 3)) : J O j n0 Q pc L S n M = J O j n0 Q (pc + 3) L (vl (-1) :: S) n M := J_ldc2_w (q := (1, 129, -1, 1157)) (by decide +kernel) (by rw [hm]) hd
theorem cln_3 {O : pO} {j n0 : Nat} {Q : pQ} {pc : Nat} {L : pL} {S : List pv} {n : Nat} {M : pM} (hm : mO j = 23) (hd : decode (mB j) pc = .ok (.ldc2_w 314, 3)) : J O j n0 Q pc L S n M = J O j n0 Q (pc + 3) L (vl 6148914691236517205 :: S) n M := J_ldc2_w (q := (23, 314, 6148914691236517205, 1216)) (by decide +kernel) (by rw [hm]) hd
theorem cln_4 {O : pO} {j n0 : Nat} {Q : pQ} {pc : Nat} {L : pL} {S : List pv} {n : Nat} {M : pM} (hm : mO j = 23) (hd : decode (mB j) pc = .ok (.ldc2_w 316, 3)) : J O j n0 Q pc L S n M = J O j n0 Q (pc + 3) L (vl 3689348814741910323 :: S) n M := J_ldc2_w (q := (23, 316, 3689348814741910323, 1217)) (by decide +kernel) (by rw [hm]) hd
theorem cln_5 {O : pO} {j n0 : Nat} {Q : pQ} {pc : Nat} {L : pL} {S : List pv} {n : Nat} {M : pM} (hm : mO j = 23) (hd : decode (mB j) pc = .ok (.ldc2_w 318, 3)) : J O j n0 Q pc L S n M = J O j n0 Q (pc + 3) L (vl 1085102592571150095 :: S) n M := J_ldc2_w (q := (23, 318, 1085102592571150095, 1218)) (by decide +kernel) (by rw [hm]) hd
theorem cln_6 {O : pO} {j n0 : Nat} {Q : pQ} {pc : Nat} {L : pL} {S : List pv} {n : Nat} {M : pM} (hm : mO j = 12) (hd : decode (mB j) pc = .ok (.ldc2_w 17, 3)) : J O j n0 Q pc L S n M = J O j n0 Q (pc + 3) L (vl 7499639 :: S) n M := J_ldc2_w (q := (12, 17, 7499639, 1831)) (by decide +kernel) (by rw [hm]) hd
theorem cln_7 {O : pO} {j n0 : Nat} {Q : pQ} {pc : Nat} {L : pL} {S : List pv} {n : Nat} {M : pM} (hm : mO j = 12) (hd : decode (mB j) pc = .ok (.ldc2_w 19, 3)) : J O j n0 Q pc L S n M = J O j n0 Q (pc + 3) L (vl 1818846836 :: S) n M := J_ldc2_w (q := (12, 19, 1818846836, 1832)) (by decide +kernel) (by rw [hm]) hd
theorem cln_8 {O : pO} {j n0 : Nat} {Q : pQ} {pc : Nat} {L : pL} {S : List pv} {n : Nat} {M : pM} (hm : mO j = 12) (hd : decode (mB j) pc = .ok (.ldc2_w 21, 3)) : J O j n0 Q pc L S n M = J O j n0 Q (pc + 3) L (vl 2003398244 :: S) n M := J_ldc2_w (q := (12, 21, 2003398244, 1833)) (by decide +kernel) (by rw [hm]) hd
theorem cln_9 {O : pO} {j n0 : Nat} {Q : pQ} {pc : Nat} {L : pL} {S : List pv} {n : Nat} {M : pM} (hm : mO j = 12) (hd : decode (mB j) pc = .ok (.ldc2_w 23, 3)) : J O j n0 Q pc L S n M = J O j n0 Q (pc + 3) L (vl 7630704 :: S) n M := J_ldc2_w (q := (12, 23, 7630704, 1834)) (by decide +kernel) (by rw [hm]) hd
theorem cln_10 {O : pO} {j n0 : Nat} {Q : pQ} {pc : Nat} {L : pL} {S : List pv} {n : Nat} {M : pM} (hm : mO j = 12) (hd : decode (mB j) pc = .ok (.ldc2_w 25, 3)) : J O j n0 Q pc L S n M = J O j n0 Q (pc + 3) L (vl 2002873452 :: S) n M := J_ldc2_w (q := (12, 25, 2002873452, 1835)) (by decide +kernel) (by rw [hm]) hd
theorem cln_11 {O : pO} {j n0 : Nat} {Q : pQ} {pc : Nat} {L : pL} {S : List pv} {n : Nat} {M : pM} (hm : mO j = 12) (hd : decode (mB j) pc = .ok (.ldc2_w 27, 3)) : J O j n0 Q pc L S n M = J O j n0 Q (pc + 3) L (vl 418263299685 :: S) n M := J_ldc2_w (q := (12, 27, 418263299685, 1836)) (by decide +kernel) (by rw [hm]) hd
theorem cln_12 {O : pO} {j n0 : Nat} {Q : pQ} {pc : Nat} {L : pL} {S : List pv} {n : Nat} {M : pM} (hm : mO j = 12) (hd : decode (mB j) pc = .ok (.ldc2_w 29, 3)) : J O j n0 Q pc L S n M = J O j n0 Q (pc + 3) L (vl 1718775661 :: S) n M := J_ldc2_w (q := (12, 29, 1718775661, 1837)) (by decide +kernel) (by rw [hm]) hd
theorem cln_13 {O : pO} {j n0 : Nat} {Q : pQ} {pc : Nat} {L : pL} {S : List pv} {n : Nat} {M : pM} (hm : mO j = 12) (hd : decode (mB j) pc = .ok (.ldc2_w 31, 3)) : J O j n0 Q pc L S n M = J O j n0 Q (pc + 3) L (vl 29807 :: S) n M := J_ldc2_w (q := (12, 31, 29807, 1838)) (by decide +kernel) (by rw [hm]) hd
theorem cln_14 {O : pO} {j n0 : Nat} {Q : pQ} {pc : Nat} {L : pL} {S : List pv} {n : Nat} {M : pM} (hm : mO j = 12) (hd : decode (mB j) pc = .ok (.ldc2_w 33, 3)) : J O j n0 Q pc L S n M = J O j n0 Q (pc + 3) L (vl 439854918756 :: S) n M := J_ldc2_w (q := (12, 33, 439854918756, 1839)) (by decide +kernel) (by rw [hm]) hd
theorem cln_15 {O : pO} {j n0 : Nat} {Q : pQ} {pc : Nat} {L : pL} {S : List pv} {n : Nat} {M : pM} (hm : mO j = 12) (hd : decode (mB j) pc = .ok (.ldc2_w 35, 3)) : J O j n0 Q pc L S n M = J O j n0 Q (pc + 3) L (vl 1919902052 :: S) n M := J_ldc2_w (q := (12, 35, 1919902052, 1840)) (by decide +kernel) (by rw [hm]) hd
theorem cln_16 {O : pO} {j n0 : Nat} {Q : pQ} {pc : Nat} {L : pL} {S : List pv} {n : Nat} {M : pM} (hm : mO j = 12) (hd : decode (mB j) pc = .ok (.ldc2_w 37, 3)) : J O j n0 Q pc L S n M = J O j n0 Q (pc + 3) L (vl 113715322316146 :: S) n M := J_ldc2_w (q := (12, 37, 113715322316146, 1841)) (by decide +kernel) (by rw [hm]) hd
theorem cln_17 {O : pO} {j n0 : Nat} {Q : pQ} {pc : Nat} {L : pL} {S : List pv} {n : Nat} {M : pM} (hm : mO j = 12) (hd : decode (mB j) pc = .ok (.ldc2_w 39, 3)) : J O j n0 Q pc L S n M = J O j n0 Q (pc + 3) L (vl 1936289387 :: S) n M := J_ldc2_w (q := (12, 39, 1936289387, 1842)) (by decide +kernel) (by rw [hm]) hd
theorem cln_18 {O : pO} {j n0 : Nat} {Q : pQ} {pc : Nat} {L : pL} {S : List pv} {n : Nat} {M : pM} (hm : mO j = 12) (hd : decode (mB j) pc = .ok (.ldc2_w 41, 3)) : J O j n0 Q pc L S n M = J O j n0 Q (pc + 3) L (vl 7521414230229344624 :: S) n M := J_ldc2_w (q := (12, 41, 7521414230229344624, 1843)) (by decide +kernel) (by rw [hm]) hd
theorem cln_19 {O : pO} {j n0 : Nat} {Q : pQ} {pc : Nat} {L : pL} {S : List pv} {n : Nat} {M : pM} (hm : mO j = 12) (hd : decode (mB j) pc = .ok (.ldc2_w 43, 3)) : J O j n0 Q pc L S n M = J O j n0 Q (pc + 3) L (vl 495589487205 :: S) n M := J_ldc2_w (q := (12, 43, 495589487205, 1844)) (by decide +kernel) (by rw [hm]) hd
theorem cln_20 {O : pO} {j n0 : Nat} {Q : pQ} {pc : Nat} {L : pL} {S : List pv} {n : Nat} {M : pM} (hm : mO j = 12) (hd : decode (mB j) pc = .ok (.ldc2_w 45, 3)) : J O j n0 Q pc L S n M = J O j n0 Q (pc + 3) L (vl 6385252 :: S) n M := J_ldc2_w (q := (12, 45, 6385252, 1845)) (by decide +kernel) (by rw [hm]) hd
theorem cln_21 {O : pO} {j n0 : Nat} {Q : pQ} {pc : Nat} {L : pL} {S : List pv} {n : Nat} {M : pM} (hm : mO j = 12) (hd : decode (mB j) pc = .ok (.ldc2_w 47, 3)) : J O j n0 Q pc L S n M = J O j n0 Q (pc + 3) L (vl 28530 :: S) n M := J_ldc2_w (q := (12, 47, 28530, 1846)) (by decide +kernel) (by rw [hm]) hd
theorem cln_22 {O : pO} {j n0 : Nat} {Q : pQ} {pc : Nat} {L : pL} {S : List pv} {n : Nat} {M : pM} (hm : mO j = 12) (hd : decode (mB j) pc = .ok (.ldc2_w 49, 3)) : J O j n0 Q pc L S n M = J O j n0 Q (pc + 3) L (vl 7237492 :: S) n M := J_ldc2_w (q := (12, 49, 7237492, 1847)) (by decide +kernel) (by rw [hm]) hd
theorem cln_23 {O : pO} {j n0 : Nat} {Q : pQ} {pc : Nat} {L : pL} {S : List pv} {n : Nat} {M : pM} (hm : mO j = 12) (hd : decode (mB j) pc = .ok (.ldc2_w 51, 3)) : J O j n0 Q pc L S n M = J O j n0 Q (pc + 3) L (vl 1685024357 :: S) n M := J_ldc2_w (q := (12, 51, 1685024357, 1848)) (by decide +kernel) (by rw [hm]) hd
theorem cln_24 {O : pO} {j n0 : Nat} {Q : pQ} {pc : Nat} {L : pL} {S : List pv} {n : Nat} {M : pM} (hm : mO j = 12) (hd : decode (mB j) pc = .ok (.ldc2_w 53, 3)) : J O j n0 Q pc L S n M = J O j n0 Q (pc + 3) L (vl 1818584947 :: S) n M := J_ldc2_w (q := (12, 53, 1818584947, 1849)) (by decide +kernel) (by rw [hm]) hd
theorem cln_25 {O : pO} {j n0 : Nat} {Q : pQ} {pc : Nat} {L : pL} {S : List pv} {n : Nat} {M : pM} (hm : mO j = 12) (hd : decode (mB j) pc = .ok (.ldc2_w 55, 3)) : J O j n0 Q pc L S n M = J O j n0 Q (pc + 3) L (vl 1953066341 :: S) n M := J_ldc2_w (q := (12, 55, 1953066341, 1850)) (by decide +kernel) (by rw [hm]) hd
theorem cln_26 {O : pO} {j n0 : Nat} {Q : pQ} {pc : Nat} {L : pL} {S : List pv} {n : Nat} {M : pM} (hm : mO j = 12) (hd : decode (mB j) pc = .ok (.ldc2_w 57, 3)) : J O j n0 Q pc L S n M = J O j n0 Q (pc + 3) L (vl 1650815860 :: S) n M := J_ldc2_w (q := (12, 57, 1650815860, 1851)) (by decide +kernel) (by rw [hm]) hd
theorem cln_27 {O : pO} {j n0 : Nat} {Q : pQ} {pc : Nat} {L : pL} {S : List pv} {n : Nat} {M : pM} (hm : mO j = 12) (hd : decode (mB j) pc = .ok (.ldc2_w 59, 3)) : J O j n0 Q pc L S n M = J O j n0 Q (pc + 3) L (vl 439855772532 :: S) n M := J_ldc2_w (q := (12, 59, 439855772532, 1852)) (by decide +kernel) (by rw [hm]) hd
theorem cln_28 {O : pO} {j n0 : Nat} {Q : pQ} {pc : Nat} {L : pL} {S : List pv} {n : Nat} {M : pM} (hm : mO j = 12) (hd : decode (mB j) pc = .ok (.ldc2_w 61, 3)) : J O j n0 Q pc L S n M = J O j n0 Q (pc + 3) L (vl 512735603827 :: S) n M := J_ldc2_w (q := (12, 61, 512735603827, 1853)) (by decide +kernel) (by rw [hm]) hd
theorem cln_29 {O : pO} {j n0 : Nat} {Q : pQ} {pc : Nat} {L : pL} {S : List pv} {n : Nat} {M : pM} (hm : mO j = 12) (hd : decode (mB j) pc = .ok (.ldc2_w 63, 3)) : J O j n0 Q pc L S n M = J O j n0 Q (pc + 3) L (vl 32210697498944868 :: S) n M := J_ldc2_w (q := (12, 63, 32210697498944868, 1854)) (by decide +kernel) (by rw [hm]) hd
theorem sh_0 : SH 0 = .inl 11 := rfl
theorem ob_0 {n : Nat} (h : 0 < n) : ob n 0 = 11 := by unfold ob; rw [if_pos h]; rfl
theorem sh_1 : SH 1 = .inr (0, 1900) := rfl
theorem aw_1 {n : Nat} (h : 1 < n) : alw n 1 0 = 1900 := by unfold alw; rw [if_pos h]; rfl
theorem al_1 {M : pM} {n : Nat} (h : 1 < n) : aln M n 1 0 = 1900 := by unfold aln; rw [if_neg (by decide), if_neg (by decide)]; exact aw_1 h
theorem sh_2 : SH 2 = .inl 7 := rfl
theorem ob_2 {n : Nat} (h : 2 < n) : ob n 2 = 7 := by unfold ob; rw [if_pos h]; rfl
theorem sh_3 : SH 3 = .inl 4 := rfl
theorem ob_3 {n : Nat} (h : 3 < n) : ob n 3 = 4 := by unfold ob; rw [if_pos h]; rfl
theorem sh_4 : SH 4 = .inr (0, 64) := rfl
theorem aw_4 {n : Nat} (h : 4 < n) : alw n 4 0 = 64 := by unfold alw; rw [if_pos h]; rfl
theorem al_4 {M : pM} {n : Nat} (h : 4 < n) : aln M n 4 0 = 64 := by unfold aln; rw [if_neg (by decide), if_neg (by decide)]; exact aw_4 h
theorem sh_5 : SH 5 = .inr (0, 48) := rfl
theorem aw_5 {n : Nat} (h : 5 < n) : alw n 5 0 = 48 := by unfold alw; rw [if_pos h]; rfl
theorem al_5 {M : pM} {n : Nat} (h : 5 < n) : aln M n 5 0 = 48 := by unfold aln; rw [if_neg (by decide), if_neg (by decide)]; exact aw_5 h
theorem sh_6 : SH 6 = .inr (0, 6) := rfl
theorem aw_6 {n : Nat} (h : 6 < n) : alw n 6 0 = 6 := by unfold alw; rw [if_pos h]; rfl
theorem al_6 {M : pM} {n : Nat} (h : 6 < n) : aln M n 6 0 = 6 := by unfold aln; rw [if_neg (by decide), if_neg (by decide)]; exact aw_6 h
theorem sh_7 : SH 7 = .inr (0, 6) := rfl
theorem aw_7 {n : Nat} (h : 7 < n) : alw n 7 0 = 6 := by unfold alw; rw [if_pos h]; rfl
theorem al_7 {M : pM} {n : Nat} (h : 7 < n) : aln M n 7 0 = 6 := by unfold aln; rw [if_neg (by decide), if_neg (by decide)]; exact aw_7 h
theorem sh_8 : SH 8 = .inr (0, 48) := rfl
theorem aw_8 {n : Nat} (h : 8 < n) : alw n 8 0 = 48 := by unfold alw; rw [if_pos h]; rfl
theorem al_8 {M : pM} {n : Nat} (h : 8 < n) : aln M n 8 0 = 48 := by unfold aln; rw [if_neg (by decide), if_neg (by decide)]; exact aw_8 h
theorem sh_9 : SH 9 = .inr (0, 60) := rfl
theorem aw_9 {n : Nat} (h : 9 < n) : alw n 9 0 = 60 := by unfold alw; rw [if_pos h]; rfl
theorem al_9 {M : pM} {n : Nat} (h : 9 < n) : aln M n 9 0 = 60 := by unfold aln; rw [if_neg (by decide), if_neg (by decide)]; exact aw_9 h
theorem sh_10 : SH 10 = .inr (1, 4) := rfl
theorem aw_10 {n : Nat} (h : 10 < n) : alw n 10 1 = 4 := by unfold alw; rw [if_pos h]; rfl
theorem sh_11 : SH 11 = .inr (0, 20) := rfl
theorem aw_11 {n : Nat} (h : 11 < n) : alw n 11 0 = 20 := by unfold alw; rw [if_pos h]; rfl
theorem al_11 {M : pM} {n : Nat} (h : 11 < n) : aln M n 11 0 = 20 := by unfold aln; rw [if_neg (by decide), if_neg (by decide)]; exact aw_11 h
theorem sh_12 : SH 12 = .inl 4 := rfl
theorem ob_12 {n : Nat} (h : 12 < n) : ob n 12 = 4 := by unfold ob; rw [if_pos h]; rfl
theorem sh_13 : SH 13 = .inr (0, 64) := rfl
theorem aw_13 {n : Nat} (h : 13 < n) : alw n 13 0 = 64 := by unfold alw; rw [if_pos h]; rfl
theorem al_13 {M : pM} {n : Nat} (h : 13 < n) : aln M n 13 0 = 64 := by unfold aln; rw [if_neg (by decide), if_neg (by decide)]; exact aw_13 h
theorem sh_14 : SH 14 = .inr (0, 48) := rfl
theorem aw_14 {n : Nat} (h : 14 < n) : alw n 14 0 = 48 := by unfold alw; rw [if_pos h]; rfl
theorem al_14 {M : pM} {n : Nat} (h : 14 < n) : aln M n 14 0 = 48 := by unfold aln; rw [if_neg (by decide), if_neg (by decide)]; exact aw_14 h
theorem sh_15 : SH 15 = .inr (0, 6) := rfl
theorem aw_15 {n : Nat} (h : 15 < n) : alw n 15 0 = 6 := by unfold alw; rw [if_pos h]; rfl
theorem al_15 {M : pM} {n : Nat} (h : 15 < n) : aln M n 15 0 = 6 := by unfold aln; rw [if_neg (by decide), if_neg (by decide)]; exact aw_15 h
theorem sh_16 : SH 16 = .inr (0, 6) := rfl
theorem aw_16 {n : Nat} (h : 16 < n) : alw n 16 0 = 6 := by unfold alw; rw [if_pos h]; rfl
theorem al_16 {M : pM} {n : Nat} (h : 16 < n) : aln M n 16 0 = 6 := by unfold aln; rw [if_neg (by decide), if_neg (by decide)]; exact aw_16 h
theorem sh_17 : SH 17 = .inr (0, 48) := rfl
theorem aw_17 {n : Nat} (h : 17 < n) : alw n 17 0 = 48 := by unfold alw; rw [if_pos h]; rfl
theorem al_17 {M : pM} {n : Nat} (h : 17 < n) : aln M n 17 0 = 48 := by unfold aln; rw [if_neg (by decide), if_neg (by decide)]; exact aw_17 h
theorem sh_18 : SH 18 = .inr (0, 60) := rfl
theorem aw_18 {n : Nat} (h : 18 < n) : alw n 18 0 = 60 := by unfold alw; rw [if_pos h]; rfl
theorem al_18 {M : pM} {n : Nat} (h : 18 < n) : aln M n 18 0 = 60 := by unfold aln; rw [if_neg (by decide), if_neg (by decide)]; exact aw_18 h
theorem sh_19 : SH 19 = .inr (1, 4) := rfl
theorem aw_19 {n : Nat} (h : 19 < n) : alw n 19 1 = 4 := by unfold alw; rw [if_pos h]; rfl
theorem sh_20 : SH 20 = .inr (0, 20) := rfl
theorem aw_20 {n : Nat} (h : 20 < n) : alw n 20 0 = 20 := by unfold alw; rw [if_pos h]; rfl
theorem al_20 {M : pM} {n : Nat} (h : 20 < n) : aln M n 20 0 = 20 := by unfold aln; rw [if_neg (by decide), if_neg (by decide)]; exact aw_20 h
theorem sh_21 : SH 21 = .inl 5 := rfl
theorem ob_21 {n : Nat} (h : 21 < n) : ob n 21 = 5 := by unfold ob; rw [if_pos h]; rfl
theorem sh_22 : SH 22 = .inl 3 := rfl
theorem ob_22 {n : Nat} (h : 22 < n) : ob n 22 = 3 := by unfold ob; rw [if_pos h]; rfl
theorem sh_23 : SH 23 = .inr (0, 512) := rfl
theorem aw_23 {n : Nat} (h : 23 < n) : alw n 23 0 = 512 := by unfold alw; rw [if_pos h]; rfl
theorem al_23 {M : pM} {n : Nat} (h : 23 < n) : aln M n 23 0 = 512 := by unfold aln; rw [if_neg (by decide), if_neg (by decide)]; exact aw_23 h
theorem sh_24 : SH 24 = .inr (0, 512) := rfl
theorem aw_24 {n : Nat} (h : 24 < n) : alw n 24 0 = 512 := by unfold alw; rw [if_pos h]; rfl
theorem al_24 {M : pM} {n : Nat} (h : 24 < n) : aln M n 24 0 = 512 := by unfold aln; rw [if_neg (by decide), if_neg (by decide)]; exact aw_24 h
theorem sh_25 : SH 25 = .inr (0, 61) := rfl
theorem aw_25 {n : Nat} (h : 25 < n) : alw n 25 0 = 61 := by unfold alw; rw [if_pos h]; rfl
theorem al_25 {M : pM} {n : Nat} (h : 25 < n) : aln M n 25 0 = 61 := by unfold aln; rw [if_neg (by decide), if_neg (by decide)]; exact aw_25 h
theorem sh_26 : SH 26 = .inl 0 := rfl
theorem ob_26 {n : Nat} (h : 26 < n) : ob n 26 = 0 := by unfold ob; rw [if_pos h]; rfl
theorem sh_27 : SH 27 = .inr (0, 4) := rfl
theorem aw_27 {n : Nat} (h : 27 < n) : alw n 27 0 = 4 := by unfold alw; rw [if_pos h]; rfl
theorem al_27 {M : pM} {n : Nat} (h : 27 < n) : aln M n 27 0 = 4 := by unfold aln; rw [if_neg (by decide), if_neg (by decide)]; exact aw_27 h
theorem sh_28 : SH 28 = .inl 1 := rfl
theorem ob_28 {n : Nat} (h : 28 < n) : ob n 28 = 1 := by unfold ob; rw [if_pos h]; rfl
theorem sh_29 : SH 29 = .inr (1, 9472) := rfl
theorem aw_29 {n : Nat} (h : 29 < n) : alw n 29 1 = 9472 := by unfold alw; rw [if_pos h]; rfl
theorem sh_30 : SH 30 = .inr (0, 512) := rfl
theorem aw_30 {n : Nat} (h : 30 < n) : alw n 30 0 = 512 := by unfold alw; rw [if_pos h]; rfl
theorem al_30 {M : pM} {n : Nat} (h : 30 < n) : aln M n 30 0 = 512 := by unfold aln; rw [if_neg (by decide), if_neg (by decide)]; exact aw_30 h
theorem sh_31 : SH 31 = .inr (0, 24) := rfl
theorem aw_31 {n : Nat} (h : 31 < n) : alw n 31 0 = 24 := by unfold alw; rw [if_pos h]; rfl
theorem al_31 {M : pM} {n : Nat} (h : 31 < n) : aln M n 31 0 = 24 := by unfold aln; rw [if_neg (by decide), if_neg (by decide)]; exact aw_31 h
theorem sh_32 : SH 32 = .inr (0, 36) := rfl
theorem aw_32 {n : Nat} (h : 32 < n) : alw n 32 0 = 36 := by unfold alw; rw [if_pos h]; rfl
theorem al_32 {M : pM} {n : Nat} (h : 32 < n) : aln M n 32 0 = 36 := by unfold aln; rw [if_neg (by decide), if_neg (by decide)]; exact aw_32 h
theorem sh_33 : SH 33 = .inl 0 := rfl
theorem ob_33 {n : Nat} (h : 33 < n) : ob n 33 = 0 := by unfold ob; rw [if_pos h]; rfl
theorem sh_34 : SH 34 = .inr (0, 4) := rfl
theorem aw_34 {n : Nat} (h : 34 < n) : alw n 34 0 = 4 := by unfold alw; rw [if_pos h]; rfl
theorem al_34 {M : pM} {n : Nat} (h : 34 < n) : aln M n 34 0 = 4 := by unfold aln; rw [if_neg (by decide), if_neg (by decide)]; exact aw_34 h
theorem sh_35 : SH 35 = .inl 2 := rfl
theorem ob_35 {n : Nat} (h : 35 < n) : ob n 35 = 2 := by unfold ob; rw [if_pos h]; rfl
theorem sh_36 : SH 36 = .inr (0, 4) := rfl
theorem aw_36 {n : Nat} (h : 36 < n) : alw n 36 0 = 4 := by unfold alw; rw [if_pos h]; rfl
theorem al_36 {M : pM} {n : Nat} (h : 36 < n) : aln M n 36 0 = 4 := by unfold aln; rw [if_neg (by decide), if_neg (by decide)]; exact aw_36 h
theorem sh_37 : SH 37 = .inr (0, 30) := rfl
theorem aw_37 {n : Nat} (h : 37 < n) : alw n 37 0 = 30 := by unfold alw; rw [if_pos h]; rfl
theorem al_37 {M : pM} {n : Nat} (h : 37 < n) : aln M n 37 0 = 30 := by unfold aln; rw [if_neg (by decide), if_neg (by decide)]; exact aw_37 h
theorem sh_38 : SH 38 = .inr (0, 30) := rfl
theorem aw_38 {n : Nat} (h : 38 < n) : alw n 38 0 = 30 := by unfold alw; rw [if_pos h]; rfl
theorem al_38 {M : pM} {n : Nat} (h : 38 < n) : aln M n 38 0 = 30 := by unfold aln; rw [if_neg (by decide), if_neg (by decide)]; exact aw_38 h
theorem sh_39 : SH 39 = .inr (0, 30) := rfl
theorem aw_39 {n : Nat} (h : 39 < n) : alw n 39 0 = 30 := by unfold alw; rw [if_pos h]; rfl
theorem al_39 {M : pM} {n : Nat} (h : 39 < n) : aln M n 39 0 = 30 := by unfold aln; rw [if_neg (by decide), if_neg (by decide)]; exact aw_39 h
theorem sh_40 : SH 40 = .inl 9 := rfl
theorem ob_40 {n : Nat} (h : 40 < n) : ob n 40 = 9 := by unfold ob; rw [if_pos h]; rfl
theorem sh_41 : SH 41 = .inr (0, 8) := rfl
theorem aw_41 {n : Nat} (h : 41 < n) : alw n 41 0 = 8 := by unfold alw; rw [if_pos h]; rfl
theorem al_41 {M : pM} {n : Nat} (h : 41 < n) : aln M n 41 0 = 8 := by unfold aln; rw [if_neg (by decide), if_neg (by decide)]; exact aw_41 h
theorem sh_42 : SH 42 = .inr (0, 200) := rfl
theorem aw_42 {n : Nat} (h : 42 < n) : alw n 42 0 = 200 := by unfold alw; rw [if_pos h]; rfl
theorem al_42 {M : pM} {n : Nat} (h : 42 < n) : aln M n 42 0 = 200 := by unfold aln; rw [if_neg (by decide), if_neg (by decide)]; exact aw_42 h
theorem sh_43 : SH 43 = .inr (0, 200) := rfl
theorem aw_43 {n : Nat} (h : 43 < n) : alw n 43 0 = 200 := by unfold alw; rw [if_pos h]; rfl
theorem al_43 {M : pM} {n : Nat} (h : 43 < n) : aln M n 43 0 = 200 := by unfold aln; rw [if_neg (by decide), if_neg (by decide)]; exact aw_43 h
theorem sh_44 : SH 44 = .inr (0, 200) := rfl
theorem aw_44 {n : Nat} (h : 44 < n) : alw n 44 0 = 200 := by unfold alw; rw [if_pos h]; rfl
theorem al_44 {M : pM} {n : Nat} (h : 44 < n) : aln M n 44 0 = 200 := by unfold aln; rw [if_neg (by decide), if_neg (by decide)]; exact aw_44 h
theorem sh_45 : SH 45 = .inr (0, 200) := rfl
theorem aw_45 {n : Nat} (h : 45 < n) : alw n 45 0 = 200 := by unfold alw; rw [if_pos h]; rfl
theorem al_45 {M : pM} {n : Nat} (h : 45 < n) : aln M n 45 0 = 200 := by unfold aln; rw [if_neg (by decide), if_neg (by decide)]; exact aw_45 h
theorem sh_46 : SH 46 = .inr (0, 200) := rfl
theorem aw_46 {n : Nat} (h : 46 < n) : alw n 46 0 = 200 := by unfold alw; rw [if_pos h]; rfl
theorem al_46 {M : pM} {n : Nat} (h : 46 < n) : aln M n 46 0 = 200 := by unfold aln; rw [if_neg (by decide), if_neg (by decide)]; exact aw_46 h
theorem sh_47 : SH 47 = .inr (0, 200) := rfl
theorem aw_47 {n : Nat} (h : 47 < n) : alw n 47 0 = 200 := by unfold alw; rw [if_pos h]; rfl
theorem al_47 {M : pM} {n : Nat} (h : 47 < n) : aln M n 47 0 = 200 := by unfold aln; rw [if_neg (by decide), if_neg (by decide)]; exact aw_47 h
theorem sh_48 : SH 48 = .inl 8 := rfl
theorem ob_48 {n : Nat} (h : 48 < n) : ob n 48 = 8 := by unfold ob; rw [if_pos h]; rfl
theorem sh_49 : SH 49 = .inr (0, 36) := rfl
theorem aw_49 {n : Nat} (h : 49 < n) : alw n 49 0 = 36 := by unfold alw; rw [if_pos h]; rfl
theorem al_49 {M : pM} {n : Nat} (h : 49 < n) : aln M n 49 0 = 36 := by unfold aln; rw [if_neg (by decide), if_neg (by decide)]; exact aw_49 h
theorem sh_50 : SH 50 = .inr (0, 36) := rfl
theorem aw_50 {n : Nat} (h : 50 < n) : alw n 50 0 = 36 := by unfold alw; rw [if_pos h]; rfl
theorem al_50 {M : pM} {n : Nat} (h : 50 < n) : aln M n 50 0 = 36 := by unfold aln; rw [if_neg (by decide), if_neg (by decide)]; exact aw_50 h
theorem sh_51 : SH 51 = .inr (0, 36) := rfl
theorem aw_51 {n : Nat} (h : 51 < n) : alw n 51 0 = 36 := by unfold alw; rw [if_pos h]; rfl
theorem al_51 {M : pM} {n : Nat} (h : 51 < n) : aln M n 51 0 = 36 := by unfold aln; rw [if_neg (by decide), if_neg (by decide)]; exact aw_51 h
theorem sh_52 : SH 52 = .inr (0, 36) := rfl
theorem aw_52 {n : Nat} (h : 52 < n) : alw n 52 0 = 36 := by unfold alw; rw [if_pos h]; rfl
theorem al_52 {M : pM} {n : Nat} (h : 52 < n) : aln M n 52 0 = 36 := by unfold aln; rw [if_neg (by decide), if_neg (by decide)]; exact aw_52 h
theorem sh_53 : SH 53 = .inl 6 := rfl
theorem ob_53 {n : Nat} (h : 53 < n) : ob n 53 = 6 := by unfold ob; rw [if_pos h]; rfl
theorem sh_54 : SH 54 = .inr (0, 64) := rfl
theorem aw_54 {n : Nat} (h : 54 < n) : alw n 54 0 = 64 := by unfold alw; rw [if_pos h]; rfl
theorem al_54 {M : pM} {n : Nat} (h : 54 < n) : aln M n 54 0 = 64 := by unfold aln; rw [if_neg (by decide), if_neg (by decide)]; exact aw_54 h
theorem sh_55 : SH 55 = .inl 10 := rfl
theorem ob_55 {n : Nat} (h : 55 < n) : ob n 55 = 10 := by unfold ob; rw [if_pos h]; rfl
theorem sh_56 : SH 56 = .inr (0, 9) := rfl
theorem aw_56 {n : Nat} (h : 56 < n) : alw n 56 0 = 9 := by unfold alw; rw [if_pos h]; rfl
theorem al_56 {M : pM} {n : Nat} (h : 56 < n) : aln M n 56 0 = 9 := by unfold aln; rw [if_neg (by decide), if_neg (by decide)]; exact aw_56 h
theorem sh_57 : SH 57 = .inr (0, 64) := rfl
theorem aw_57 {n : Nat} (h : 57 < n) : alw n 57 0 = 64 := by unfold alw; rw [if_pos h]; rfl
theorem al_57 {M : pM} {n : Nat} (h : 57 < n) : aln M n 57 0 = 64 := by unfold aln; rw [if_neg (by decide), if_neg (by decide)]; exact aw_57 h
theorem sh_58 : SH 58 = .inr (0, 3) := rfl
theorem aw_58 {n : Nat} (h : 58 < n) : alw n 58 0 = 3 := by unfold alw; rw [if_pos h]; rfl
theorem al_58 {M : pM} {n : Nat} (h : 58 < n) : aln M n 58 0 = 3 := by unfold aln; rw [if_neg (by decide), if_neg (by decide)]; exact aw_58 h
theorem sh_59 : SH 59 = .inr (0, 9) := rfl
theorem aw_59 {n : Nat} (h : 59 < n) : alw n 59 0 = 9 := by unfold alw; rw [if_pos h]; rfl
theorem al_59 {M : pM} {n : Nat} (h : 59 < n) : aln M n 59 0 = 9 := by unfold aln; rw [if_neg (by decide), if_neg (by decide)]; exact aw_59 h
theorem sh_60 : SH 60 = .inr (0, 9) := rfl
theorem aw_60 {n : Nat} (h : 60 < n) : alw n 60 0 = 9 := by unfold alw; rw [if_pos h]; rfl
theorem al_60 {M : pM} {n : Nat} (h : 60 < n) : aln M n 60 0 = 9 := by unfold aln; rw [if_neg (by decide), if_neg (by decide)]; exact aw_60 h
theorem sh_61 : SH 61 = .inl 12 := rfl
theorem ob_61 {n : Nat} (h : 61 < n) : ob n 61 = 12 := by unfold ob; rw [if_pos h]; rfl
theorem sh_62 : SH 62 = .inr (2, 1920) := rfl
theorem aw_62 {n : Nat} (h : 62 < n) : alw n 62 2 = 1920 := by unfold alw; rw [if_pos h]; rfl
theorem ax_62 {n : Nat} : alw n 62 3 = -1 := by unfold alw; split <;> rfl
theorem sh_63 : SH 63 = .inr (2, 1900) := rfl
theorem aw_63 {n : Nat} (h : 63 < n) : alw n 63 2 = 1900 := by unfold alw; rw [if_pos h]; rfl
theorem ax_63 {n : Nat} : alw n 63 3 = -1 := by unfold alw; split <;> rfl
theorem sh_64 : SH 64 = .inr (0, 2) := rfl
theorem aw_64 {n : Nat} (h : 64 < n) : alw n 64 0 = 2 := by unfold alw; rw [if_pos h]; rfl
theorem al_64 {M : pM} {n : Nat} (h : 64 < n) : aln M n 64 0 = 2 := by unfold aln; rw [if_neg (by decide), if_neg (by decide)]; exact aw_64 h
theorem sh_65 : SH 65 = .inr (0, 2) := rfl
theorem aw_65 {n : Nat} (h : 65 < n) : alw n 65 0 = 2 := by unfold alw; rw [if_pos h]; rfl
theorem al_65 {M : pM} {n : Nat} (h : 65 < n) : aln M n 65 0 = 2 := by unfold aln; rw [if_neg (by decide), if_neg (by decide)]; exact aw_65 h
theorem sh_66 : SH 66 = .inr (0, 2) := rfl
theorem aw_66 {n : Nat} (h : 66 < n) : alw n 66 0 = 2 := by unfold alw; rw [if_pos h]; rfl
theorem al_66 {M : pM} {n : Nat} (h : 66 < n) : aln M n 66 0 = 2 := by unfold aln; rw [if_neg (by decide), if_neg (by decide)]; exact aw_66 h
theorem sh_67 : SH 67 = .inr (0, 2) := rfl
theorem aw_67 {n : Nat} (h : 67 < n) : alw n 67 0 = 2 := by unfold alw; rw [if_pos h]; rfl
theorem al_67 {M : pM} {n : Nat} (h : 67 < n) : aln M n 67 0 = 2 := by unfold aln; rw [if_neg (by decide), if_neg (by decide)]; exact aw_67 h
theorem sh_68 : SH 68 = .inr (0, 2) := rfl
theorem aw_68 {n : Nat} (h : 68 < n) : alw n 68 0 = 2 := by unfold alw; rw [if_pos h]; rfl
theorem al_68 {M : pM} {n : Nat} (h : 68 < n) : aln M n 68 0 = 2 := by unfold aln; rw [if_neg (by decide), if_neg (by decide)]; exact aw_68 h
theorem sh_69 : SH 69 = .inr (0, 128) := rfl
theorem aw_69 {n : Nat} (h : 69 < n) : alw n 69 0 = 128 := by unfold alw; rw [if_pos h]; rfl
theorem al_69 {M : pM} {n : Nat} (h : 69 < n) : aln M n 69 0 = 128 := by unfold aln; rw [if_neg (by decide), if_neg (by decide)]; exact aw_69 h
theorem sh_70 : SH 70 = .inr (0, 96) := rfl
theorem aw_70 {n : Nat} (h : 70 < n) : alw n 70 0 = 96 := by unfold alw; rw [if_pos h]; rfl
theorem al_70 {M : pM} {n : Nat} (h : 70 < n) : aln M n 70 0 = 96 := by unfold aln; rw [if_neg (by decide), if_neg (by decide)]; exact aw_70 h
theorem sh_71 : SH 71 = .inr (0, 12) := rfl
theorem aw_71 {n : Nat} (h : 71 < n) : alw n 71 0 = 12 := by unfold alw; rw [if_pos h]; rfl
theorem al_71 {M : pM} {n : Nat} (h : 71 < n) : aln M n 71 0 = 12 := by unfold aln; rw [if_neg (by decide), if_neg (by decide)]; exact aw_71 h
theorem sh_72 : SH 72 = .inr (0, 12) := rfl
theorem aw_72 {n : Nat} (h : 72 < n) : alw n 72 0 = 12 := by unfold alw; rw [if_pos h]; rfl
theorem al_72 {M : pM} {n : Nat} (h : 72 < n) : aln M n 72 0 = 12 := by unfold aln; rw [if_neg (by decide), if_neg (by decide)]; exact aw_72 h
theorem sh_73 : SH 73 = .inr (0, 12) := rfl
theorem aw_73 {n : Nat} (h : 73 < n) : alw n 73 0 = 12 := by unfold alw; rw [if_pos h]; rfl
theorem al_73 {M : pM} {n : Nat} (h : 73 < n) : aln M n 73 0 = 12 := by unfold aln; rw [if_neg (by decide), if_neg (by decide)]; exact aw_73 h
theorem sh_74 : SH 74 = .inr (0, 24) := rfl
theorem aw_74 {n : Nat} (h : 74 < n) : alw n 74 0 = 24 := by unfold alw; rw [if_pos h]; rfl
theorem al_74 {M : pM} {n : Nat} (h : 74 < n) : aln M n 74 0 = 24 := by unfold aln; rw [if_neg (by decide), if_neg (by decide)]; exact aw_74 h
theorem sh_75 : SH 75 = .inr (0, 24) := rfl
theorem aw_75 {n : Nat} (h : 75 < n) : alw n 75 0 = 24 := by unfold alw; rw [if_pos h]; rfl
theorem al_75 {M : pM} {n : Nat} (h : 75 < n) : aln M n 75 0 = 24 := by unfold aln; rw [if_neg (by decide), if_neg (by decide)]; exact aw_75 h
theorem sh_76 : SH 76 = .inr (0, 24) := rfl
theorem aw_76 {n : Nat} (h : 76 < n) : alw n 76 0 = 24 := by unfold alw; rw [if_pos h]; rfl
theorem al_76 {M : pM} {n : Nat} (h : 76 < n) : aln M n 76 0 = 24 := by unfold aln; rw [if_neg (by decide), if_neg (by decide)]; exact aw_76 h
theorem sh_77 : SH 77 = .inr (0, 24) := rfl
theorem aw_77 {n : Nat} (h : 77 < n) : alw n 77 0 = 24 := by unfold alw; rw [if_pos h]; rfl
theorem al_77 {M : pM} {n : Nat} (h : 77 < n) : aln M n 77 0 = 24 := by unfold aln; rw [if_neg (by decide), if_neg (by decide)]; exact aw_77 h
theorem sh_78 : SH 78 = .inr (0, 40) := rfl
theorem aw_78 {n : Nat} (h : 78 < n) : alw n 78 0 = 40 := by unfold alw; rw [if_pos h]; rfl
theorem al_78 {M : pM} {n : Nat} (h : 78 < n) : aln M n 78 0 = 40 := by unfold aln; rw [if_neg (by decide), if_neg (by decide)]; exact aw_78 h
theorem sh_79 : SH 79 = .inr (0, 40) := rfl
theorem aw_79 {n : Nat} (h : 79 < n) : alw n 79 0 = 40 := by unfold alw; rw [if_pos h]; rfl
theorem al_79 {M : pM} {n : Nat} (h : 79 < n) : aln M n 79 0 = 40 := by unfold aln; rw [if_neg (by decide), if_neg (by decide)]; exact aw_79 h
theorem sh_80 : SH 80 = .inr (0, 40) := rfl
theorem aw_80 {n : Nat} (h : 80 < n) : alw n 80 0 = 40 := by unfold alw; rw [if_pos h]; rfl
theorem al_80 {M : pM} {n : Nat} (h : 80 < n) : aln M n 80 0 = 40 := by unfold aln; rw [if_neg (by decide), if_neg (by decide)]; exact aw_80 h
theorem sh_81 : SH 81 = .inr (0, 32) := rfl
theorem aw_81 {n : Nat} (h : 81 < n) : alw n 81 0 = 32 := by unfold alw; rw [if_pos h]; rfl
theorem al_81 {M : pM} {n : Nat} (h : 81 < n) : aln M n 81 0 = 32 := by unfold aln; rw [if_neg (by decide), if_neg (by decide)]; exact aw_81 h
theorem sh_82 : SH 82 = .inr (0, 8) := rfl
theorem aw_82 {n : Nat} (h : 82 < n) : alw n 82 0 = 8 := by unfold alw; rw [if_pos h]; rfl
theorem al_82 {M : pM} {n : Nat} (h : 82 < n) : aln M n 82 0 = 8 := by unfold aln; rw [if_neg (by decide), if_neg (by decide)]; exact aw_82 h
theorem sh_83 : SH 83 = .inr (1, 8) := rfl
theorem aw_83 {n : Nat} (h : 83 < n) : alw n 83 1 = 8 := by unfold alw; rw [if_pos h]; rfl
theorem sh_84 : SH 84 = .inr (3, 8) := rfl
theorem aw_84 {n : Nat} (h : 84 < n) : alw n 84 3 = 8 := by unfold alw; rw [if_pos h]; rfl
theorem ax_84 {n : Nat} : alw n 84 2 = -1 := by unfold alw; split <;> rfl
theorem sh_85 : SH 85 = .inr (3, 8) := rfl
theorem aw_85 {n : Nat} (h : 85 < n) : alw n 85 3 = 8 := by unfold alw; rw [if_pos h]; rfl
theorem ax_85 {n : Nat} : alw n 85 2 = -1 := by unfold alw; split <;> rfl
theorem sh_86 : SH 86 = .inr (3, 128) := rfl
theorem aw_86 {n : Nat} (h : 86 < n) : alw n 86 3 = 128 := by unfold alw; rw [if_pos h]; rfl
theorem ax_86 {n : Nat} : alw n 86 2 = -1 := by unfold alw; split <;> rfl
theorem sh_87 : SH 87 = .inr (0, 4) := rfl
theorem aw_87 {n : Nat} (h : 87 < n) : alw n 87 0 = 4 := by unfold alw; rw [if_pos h]; rfl
theorem al_87 {M : pM} {n : Nat} (h : 87 < n) : aln M n 87 0 = 4 := by unfold aln; rw [if_neg (by decide), if_neg (by decide)]; exact aw_87 h
theorem sh_88 : SH 88 = .inr (0, 388352) := rfl
theorem aw_88 {n : Nat} (h : 88 < n) : alw n 88 0 = 388352 := by unfold alw; rw [if_pos h]; rfl
theorem al_88 {M : pM} {n : Nat} (h : 88 < n) : aln M n 88 0 = 388352 := by unfold aln; rw [if_neg (by decide), if_neg (by decide)]; exact aw_88 h
theorem sh_89 : SH 89 = .inr (0, 36) := rfl
theorem aw_89 {n : Nat} (h : 89 < n) : alw n 89 0 = 36 := by unfold alw; rw [if_pos h]; rfl
theorem al_89 {M : pM} {n : Nat} (h : 89 < n) : aln M n 89 0 = 36 := by unfold aln; rw [if_neg (by decide), if_neg (by decide)]; exact aw_89 h
theorem sh_90 : SH 90 = .inr (3, 97088) := rfl
theorem aw_90 {n : Nat} (h : 90 < n) : alw n 90 3 = 97088 := by unfold alw; rw [if_pos h]; rfl
theorem ax_90 {n : Nat} : alw n 90 2 = -1 := by unfold alw; split <;> rfl
theorem sh_91 : SH 91 = .inr (0, 30) := rfl
theorem aw_91 {n : Nat} (h : 91 < n) : alw n 91 0 = 30 := by unfold alw; rw [if_pos h]; rfl
theorem al_91 {M : pM} {n : Nat} (h : 91 < n) : aln M n 91 0 = 30 := by unfold aln; rw [if_neg (by decide), if_neg (by decide)]; exact aw_91 h
theorem sh_92 : SH 92 = .inr (0, 30) := rfl
theorem aw_92 {n : Nat} (h : 92 < n) : alw n 92 0 = 30 := by unfold alw; rw [if_pos h]; rfl
theorem al_92 {M : pM} {n : Nat} (h : 92 < n) : aln M n 92 0 = 30 := by unfold aln; rw [if_neg (by decide), if_neg (by decide)]; exact aw_92 h
theorem sh_93 : SH 93 = .inr (0, 30) := rfl
theorem aw_93 {n : Nat} (h : 93 < n) : alw n 93 0 = 30 := by unfold alw; rw [if_pos h]; rfl
theorem al_93 {M : pM} {n : Nat} (h : 93 < n) : aln M n 93 0 = 30 := by unfold aln; rw [if_neg (by decide), if_neg (by decide)]; exact aw_93 h
theorem sh_94 : SH 94 = .inr (3, 30) := rfl
theorem aw_94 {n : Nat} (h : 94 < n) : alw n 94 3 = 30 := by unfold alw; rw [if_pos h]; rfl
theorem ax_94 {n : Nat} : alw n 94 2 = -1 := by unfold alw; split <;> rfl
theorem sh_95 : SH 95 = .inr (0, 5) := rfl
theorem aw_95 {n : Nat} (h : 95 < n) : alw n 95 0 = 5 := by unfold alw; rw [if_pos h]; rfl
theorem al_95 {M : pM} {n : Nat} (h : 95 < n) : aln M n 95 0 = 5 := by unfold aln; rw [if_neg (by decide), if_neg (by decide)]; exact aw_95 h
theorem sh_96 : SH 96 = .inr (0, 8) := rfl
theorem aw_96 {n : Nat} (h : 96 < n) : alw n 96 0 = 8 := by unfold alw; rw [if_pos h]; rfl
theorem al_96 {M : pM} {n : Nat} (h : 96 < n) : aln M n 96 0 = 8 := by unfold aln; rw [if_neg (by decide), if_neg (by decide)]; exact aw_96 h
theorem sh_97 : SH 97 = .inr (0, 200) := rfl
theorem aw_97 {n : Nat} (h : 97 < n) : alw n 97 0 = 200 := by unfold alw; rw [if_pos h]; rfl
theorem al_97 {M : pM} {n : Nat} (h : 97 < n) : aln M n 97 0 = 200 := by unfold aln; rw [if_neg (by decide), if_neg (by decide)]; exact aw_97 h
theorem sh_98 : SH 98 = .inr (0, 200) := rfl
theorem aw_98 {n : Nat} (h : 98 < n) : alw n 98 0 = 200 := by unfold alw; rw [if_pos h]; rfl
theorem al_98 {M : pM} {n : Nat} (h : 98 < n) : aln M n 98 0 = 200 := by unfold aln; rw [if_neg (by decide), if_neg (by decide)]; exact aw_98 h
theorem sh_99 : SH 99 = .inr (0, 200) := rfl
theorem aw_99 {n : Nat} (h : 99 < n) : alw n 99 0 = 200 := by unfold alw; rw [if_pos h]; rfl
theorem al_99 {M : pM} {n : Nat} (h : 99 < n) : aln M n 99 0 = 200 := by unfold aln; rw [if_neg (by decide), if_neg (by decide)]; exact aw_99 h
theorem sh_100 : SH 100 = .inr (0, 200) := rfl
theorem aw_100 {n : Nat} (h : 100 < n) : alw n 100 0 = 200 := by unfold alw; rw [if_pos h]; rfl
theorem al_100 {M : pM} {n : Nat} (h : 100 < n) : aln M n 100 0 = 200 := by unfold aln; rw [if_neg (by decide), if_neg (by decide)]; exact aw_100 h
theorem sh_101 : SH 101 = .inr (0, 200) := rfl
theorem aw_101 {n : Nat} (h : 101 < n) : alw n 101 0 = 200 := by unfold alw; rw [if_pos h]; rfl
theorem al_101 {M : pM} {n : Nat} (h : 101 < n) : aln M n 101 0 = 200 := by unfold aln; rw [if_neg (by decide), if_neg (by decide)]; exact aw_101 h
theorem sh_102 : SH 102 = .inr (0, 200) := rfl
theorem aw_102 {n : Nat} (h : 102 < n) : alw n 102 0 = 200 := by unfold alw; rw [if_pos h]; rfl
theorem al_102 {M : pM} {n : Nat} (h : 102 < n) : aln M n 102 0 = 200 := by unfold aln; rw [if_neg (by decide), if_neg (by decide)]; exact aw_102 h
theorem sh_103 : SH 103 = .inr (0, 36) := rfl
theorem aw_103 {n : Nat} (h : 103 < n) : alw n 103 0 = 36 := by unfold alw; rw [if_pos h]; rfl
theorem al_103 {M : pM} {n : Nat} (h : 103 < n) : aln M n 103 0 = 36 := by unfold aln; rw [if_neg (by decide), if_neg (by decide)]; exact aw_103 h
theorem sh_104 : SH 104 = .inr (0, 36) := rfl
theorem aw_104 {n : Nat} (h : 104 < n) : alw n 104 0 = 36 := by unfold alw; rw [if_pos h]; rfl
theorem al_104 {M : pM} {n : Nat} (h : 104 < n) : aln M n 104 0 = 36 := by unfold aln; rw [if_neg (by decide), if_neg (by decide)]; exact aw_104 h
theorem sh_105 : SH 105 = .inr (0, 36) := rfl
theorem aw_105 {n : Nat} (h : 105 < n) : alw n 105 0 = 36 := by unfold alw; rw [if_pos h]; rfl
theorem al_105 {M : pM} {n : Nat} (h : 105 < n) : aln M n 105 0 = 36 := by unfold aln; rw [if_neg (by decide), if_neg (by decide)]; exact aw_105 h
theorem sh_106 : SH 106 = .inr (0, 36) := rfl
theorem aw_106 {n : Nat} (h : 106 < n) : alw n 106 0 = 36 := by unfold alw; rw [if_pos h]; rfl
theorem al_106 {M : pM} {n : Nat} (h : 106 < n) : aln M n 106 0 = 36 := by unfold aln; rw [if_neg (by decide), if_neg (by decide)]; exact aw_106 h
theorem sh_107 : SH 107 = .inr (0, 4) := rfl
theorem aw_107 {n : Nat} (h : 107 < n) : alw n 107 0 = 4 := by unfold alw; rw [if_pos h]; rfl
theorem al_107 {M : pM} {n : Nat} (h : 107 < n) : aln M n 107 0 = 4 := by unfold aln; rw [if_neg (by decide), if_neg (by decide)]; exact aw_107 h
theorem sh_108 : SH 108 = .inr (0, 600) := rfl
theorem aw_108 {n : Nat} (h : 108 < n) : alw n 108 0 = 600 := by unfold alw; rw [if_pos h]; rfl
theorem al_108 {M : pM} {n : Nat} (h : 108 < n) : aln M n 108 0 = 600 := by unfold aln; rw [if_neg (by decide), if_neg (by decide)]; exact aw_108 h
theorem sh_109 : SH 109 = .inr (0, 600) := rfl
theorem aw_109 {n : Nat} (h : 109 < n) : alw n 109 0 = 600 := by unfold alw; rw [if_pos h]; rfl
theorem al_109 {M : pM} {n : Nat} (h : 109 < n) : aln M n 109 0 = 600 := by unfold aln; rw [if_neg (by decide), if_neg (by decide)]; exact aw_109 h
theorem sh_110 : SH 110 = .inr (0, 2) := rfl
theorem aw_110 {n : Nat} (h : 110 < n) : alw n 110 0 = 2 := by unfold alw; rw [if_pos h]; rfl
theorem al_110 {M : pM} {n : Nat} (h : 110 < n) : aln M n 110 0 = 2 := by unfold aln; rw [if_neg (by decide), if_neg (by decide)]; exact aw_110 h
theorem sh_111 : SH 111 = .inr (0, 80) := rfl
theorem aw_111 {n : Nat} (h : 111 < n) : alw n 111 0 = 80 := by unfold alw; rw [if_pos h]; rfl
theorem al_111 {M : pM} {n : Nat} (h : 111 < n) : aln M n 111 0 = 80 := by unfold aln; rw [if_neg (by decide), if_neg (by decide)]; exact aw_111 h
theorem sh_112 : SH 112 = .inr (0, 80) := rfl
theorem aw_112 {n : Nat} (h : 112 < n) : alw n 112 0 = 80 := by unfold alw; rw [if_pos h]; rfl
theorem al_112 {M : pM} {n : Nat} (h : 112 < n) : aln M n 112 0 = 80 := by unfold aln; rw [if_neg (by decide), if_neg (by decide)]; exact aw_112 h
theorem sh_113 : SH 113 = .inr (0, 80) := rfl
theorem aw_113 {n : Nat} (h : 113 < n) : alw n 113 0 = 80 := by unfold alw; rw [if_pos h]; rfl
theorem al_113 {M : pM} {n : Nat} (h : 113 < n) : aln M n 113 0 = 80 := by unfold aln; rw [if_neg (by decide), if_neg (by decide)]; exact aw_113 h
theorem sh_114 : SH 114 = .inr (0, 4096) := rfl
theorem aw_114 {n : Nat} (h : 114 < n) : alw n 114 0 = 4096 := by unfold alw; rw [if_pos h]; rfl
theorem al_114 {M : pM} {n : Nat} (h : 114 < n) : aln M n 114 0 = 4096 := by unfold aln; rw [if_neg (by decide), if_neg (by decide)]; exact aw_114 h
theorem sh_115 : SH 115 = .inr (0, 9) := rfl
theorem aw_115 {n : Nat} (h : 115 < n) : alw n 115 0 = 9 := by unfold alw; rw [if_pos h]; rfl
theorem al_115 {M : pM} {n : Nat} (h : 115 < n) : aln M n 115 0 = 9 := by unfold aln; rw [if_neg (by decide), if_neg (by decide)]; exact aw_115 h
theorem sh_116 : SH 116 = .inr (0, 9) := rfl
theorem aw_116 {n : Nat} (h : 116 < n) : alw n 116 0 = 9 := by unfold alw; rw [if_pos h]; rfl
theorem al_116 {M : pM} {n : Nat} (h : 116 < n) : aln M n 116 0 = 9 := by unfold aln; rw [if_neg (by decide), if_neg (by decide)]; exact aw_116 h
theorem sh_117 : SH 117 = .inr (0, 9) := rfl
theorem aw_117 {n : Nat} (h : 117 < n) : alw n 117 0 = 9 := by unfold alw; rw [if_pos h]; rfl
theorem al_117 {M : pM} {n : Nat} (h : 117 < n) : aln M n 117 0 = 9 := by unfold aln; rw [if_neg (by decide), if_neg (by decide)]; exact aw_117 h
theorem sh_118 : SH 118 = .inr (0, 3) := rfl
theorem aw_118 {n : Nat} (h : 118 < n) : alw n 118 0 = 3 := by unfold alw; rw [if_pos h]; rfl
theorem al_118 {M : pM} {n : Nat} (h : 118 < n) : aln M n 118 0 = 3 := by unfold aln; rw [if_neg (by decide), if_neg (by decide)]; exact aw_118 h
theorem al_1000 {M : pM} {n : Nat} : aln M n 1000 0 = 8 := by unfold aln; rw [if_neg (by decide), if_pos (by decide)]
theorem al_1001 {M : pM} {n : Nat} : aln M n 1001 0 = 8 := by unfold aln; rw [if_neg (by decide), if_pos (by decide)]
theorem al_1002 {M : pM} {n : Nat} : aln M n 1002 0 = M 1003 0 := by unfold aln; rw [if_pos (by decide)]
theorem stk_n : stk [] = 0 := rfl
theorem stk_i {x : Int} {S : List pv} : stk (vi x :: S) = stk S + 1 := by unfold stk; rw [List.map_cons, List.sum_cons]; show 1 + _ = _; omega
theorem stk_r {x : Nat} {S : List pv} : stk (vr x :: S) = stk S + 1 := by unfold stk; rw [List.map_cons, List.sum_cons]; show 1 + _ = _; omega
theorem stk_l {x : Int} {S : List pv} : stk (vl x :: S) = stk S + 2 := by unfold stk; rw [List.map_cons, List.sum_cons]; show 2 + _ = _; omega
end
section
/-! ===== calls opened: r deep ===== -/
def OJ : Nat → pO
  | 0 => fun _ _ _ _ _ => False
  | r + 1 => fun i a n M Q => mth i = 0 ∧ (a.flatMap en0).length ≤ mX i ∧ J (OJ r) i n Q 0 (ent i a) [] n M
theorem OJ_ok (l : Launch) : ∀ r, OS l r (OJ r)
  | 0 => OS_none l 0
  | r + 1 => OS_next (OJ_ok l r) (fun _ _ _ _ _ _ _ _ h => h)
theorem mo_OJ {r i : Nat} {a : List pv} {n : Nat} {M : pM} {Q : pQ} (hm : mth i = 0) (hl : (a.flatMap en0).length ≤ mX i) : mo (OJ (r + 1)) i a n M Q = J (OJ r) i n Q 0 (ent i a) [] n M := by
  refine propext ⟨fun h => ?_, fun h => ⟨Q, ⟨hm, hl, h⟩, fun _ _ q => q⟩⟩
  obtain ⟨Q0, ⟨-, -, h1⟩, h2⟩ := h
  exact J_mono h2 h1
theorem alw_u {n a t t' : Nat} (h : 0 ≤ alw n a t) (h' : 0 ≤ alw n a t') : alw n a t = alw n a t' := by
  obtain ⟨l1, -, e1, e2⟩ := alw_of h
  obtain ⟨l2, -, e3, e4⟩ := alw_of h'
  rw [e1] at e3
  cases e3
  rfl
theorem J_alenE {O : pO} {j n0 : Nat} {Q : pQ} {pc : Nat} {L : pL} {S : List pv} {n : Nat} {M : pM} {a : Nat} (t : Nat) {len : Int} (ha : a < 1000) (hl : alw n a t = len) (h0 : 0 ≤ len) (hd : decode (mB j) pc = .ok (.arraylength, 1)) : J O j n0 Q pc L (vr (a + 1) :: S) n M = J O j n0 Q (pc + 1) L (vi len :: S) n M := by
  have e : ∀ t, aln M n a t = alw n a t := fun t => by unfold aln; rw [if_neg (by omega), if_neg (by omega)]
  refine propext ⟨fun h => ?_, fun h => J_alen (t := t) hd (by rw [e]; exact hl) h0 h⟩
  rw [J_of hd (fun ⟨_, i, S', _, h2, _⟩ => by have := Sum.inr.inj (Sum.inr.inj (List.cons.inj h2).1); omega)] at h
  obtain ⟨-, a', S', t', h1, h2, h3⟩ := h
  cases h1
  rw [e] at h2 h3
  rw [alw_u h2 (by omega : 0 ≤ alw n a t), hl] at h3
  exact h3
theorem J_alenS {O : pO} {j n0 : Nat} {Q : pQ} {pc : Nat} {L : pL} {S : List pv} {n : Nat} {M : pM} {len : Int} (hn : n ≤ 119) (hl : M 1003 0 = len) (h0 : 0 ≤ len) (hd : decode (mB j) pc = .ok (.arraylength, 1)) : J O j n0 Q pc L (vr 1003 :: S) n M = J O j n0 Q (pc + 1) L (vi len :: S) n M := by
  refine propext ⟨fun h => ?_, fun h => J_alen (a := 1002) (t := 0) hd (by rw [al_1002]; exact hl) h0 h⟩
  rw [J_of hd (fun ⟨_, i, S', _, h2, _⟩ => by have := Sum.inr.inj (Sum.inr.inj (List.cons.inj h2).1); omega)] at h
  obtain ⟨-, a', S', t', h1, h2, h3⟩ := h
  cases h1
  by_cases ht : t' = 0
  · subst ht; rw [al_1002, hl] at h3; exact h3
  · have e : aln M n 1002 t' = -1 := by
      unfold aln
      rw [if_neg (fun q => ht q.2), if_neg (fun q => ht q.2)]
      unfold alw
      rw [if_neg (by omega)]
    rw [e] at h2
    omega
theorem kI_eq {O : pO} {j n0 : Nat} {Q : pQ} {pc : Nat} {L : pL} {S : List pv} {n : Nat} {M : pM} {x : Int} : kI O j n0 Q pc L S n (some (vi x)) M = J O j n0 Q pc L (vi x :: S) n M := propext ⟨fun ⟨y, h1, h2⟩ => by cases h1; exact h2, fun h => ⟨x, rfl, h⟩⟩
theorem kL_eq {O : pO} {j n0 : Nat} {Q : pQ} {pc : Nat} {L : pL} {S : List pv} {n : Nat} {M : pM} {x : Int} : kL O j n0 Q pc L S n (some (vl x)) M = J O j n0 Q pc L (vl x :: S) n M := propext ⟨fun ⟨y, h1, h2⟩ => by cases h1; exact h2, fun h => ⟨x, rfl, h⟩⟩
theorem kV_eq {O : pO} {j n0 : Nat} {Q : pQ} {pc : Nat} {L : pL} {S : List pv} {n : Nat} {M : pM} : kV O j n0 Q pc L S n none M = J O j n0 Q pc L S n M := propext ⟨fun h => h.2, fun h => ⟨rfl, h⟩⟩
/-- a row of cells filled, a row laid anew -/
def fil (M : pM) (k len : Nat) (v : Int) : pM := fun a b => if a = k ∧ b < len then v else M a b
def row (M : pM) (k : Nat) (X : Nat → Int) : pM := fun a => if a = k then X else M a
theorem row_at {M : pM} {k : Nat} {X : Nat → Int} : row M k X k = X := by unfold row; rw [if_pos rfl]
theorem row_ne {M : pM} {k a : Nat} {X : Nat → Int} (h : a ≠ k) : row M k X a = M a := by unfold row; rw [if_neg h]
theorem st_row' {M : pM} {k i : Nat} {v : Int} : st M k i v = row M k (fun b => if b = i then v else M k b) := by
  funext a b
  unfold st row
  by_cases h : a = k
  · subst h; simp
  · simp [h]
theorem row_row {M : pM} {k : Nat} {X Y : Nat → Int} : row (row M k X) k Y = row M k Y := by
  funext a b
  unfold row
  by_cases h : a = k <;> simp [h]
theorem row_self {M : pM} {k : Nat} : row M k (M k) = M := by
  funext a b
  unfold row
  by_cases h : a = k <;> simp [h]
theorem stA {M : pM} {k i : Nat} {v : Int} {a b : Nat} : st M k i v a b = if a = k ∧ b = i then v else M a b := rfl
theorem zrA {M : pM} {k : Nat} {a b : Nat} : zr M k a b = if a = k then 0 else M a b := rfl
theorem rowA {M : pM} {k : Nat} {X : Nat → Int} {a b : Nat} : row M k X a b = if a = k then X b else M a b := by unfold row; split <;> rfl
theorem filA {M : pM} {k len : Nat} {v : Int} {a b : Nat} : fil M k len v a b = if a = k ∧ b < len then v else M a b := rfl
end
