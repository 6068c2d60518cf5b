-- ===== PART A: goes FIRST, ahead of the names: the tables' words, and 'selects' of the private methods out of them =====
/-- a private method of a class that the tables say can be made, by its rows of tables_1 -/
def lw_okq (q : MethodName × Nat) : Prop := (q.1.cls ≠ "java/lang/invoke/MethodHandle" ∧ q.1.cls ≠ "java/lang/invoke/VarHandle") ∧ Cond.instantiable q.1.cls q.2 ∈ tables_1 ∧ Cond.privateMethod q.1 ∈ tables_1 ∧ Cond.instanceMethod q.1 ∈ tables_1
theorem lw_p0 : lw_okq (⟨"StatuteBook$Reader", "readOperation", "()V"⟩, 4) := ⟨⟨by decide +kernel, by decide +kernel⟩, List.mem_of_getElem? (i := 28) (by decide +kernel), List.mem_of_getElem? (i := 253) (by decide +kernel), List.mem_of_getElem? (i := 254) (by decide +kernel)⟩
theorem lw_p1 : lw_okq (⟨"StatuteBook$Reader", "skipBlanks", "()V"⟩, 4) := ⟨⟨by decide +kernel, by decide +kernel⟩, List.mem_of_getElem? (i := 28) (by decide +kernel), List.mem_of_getElem? (i := 257) (by decide +kernel), List.mem_of_getElem? (i := 258) (by decide +kernel)⟩
theorem lw_p2 : lw_okq (⟨"StatuteBook$Reader", "readKind", "()I"⟩, 4) := ⟨⟨by decide +kernel, by decide +kernel⟩, List.mem_of_getElem? (i := 28) (by decide +kernel), List.mem_of_getElem? (i := 270) (by decide +kernel), List.mem_of_getElem? (i := 271) (by decide +kernel)⟩
theorem lw_p3 : lw_okq (⟨"StatuteBook$Reader", "passes", "(Ljava/lang/String;)Z"⟩, 4) := ⟨⟨by decide +kernel, by decide +kernel⟩, List.mem_of_getElem? (i := 28) (by decide +kernel), List.mem_of_getElem? (i := 275) (by decide +kernel), List.mem_of_getElem? (i := 276) (by decide +kernel)⟩
theorem lw_p4 : lw_okq (⟨"StatuteBook$Reader", "fail", "(I)V"⟩, 4) := ⟨⟨by decide +kernel, by decide +kernel⟩, List.mem_of_getElem? (i := 28) (by decide +kernel), List.mem_of_getElem? (i := 334) (by decide +kernel), List.mem_of_getElem? (i := 335) (by decide +kernel)⟩
theorem lw_p5 : lw_okq (⟨"StatuteBook$Reader", "readNumber", "()I"⟩, 4) := ⟨⟨by decide +kernel, by decide +kernel⟩, List.mem_of_getElem? (i := 28) (by decide +kernel), List.mem_of_getElem? (i := 338) (by decide +kernel), List.mem_of_getElem? (i := 339) (by decide +kernel)⟩
theorem lw_p6 : lw_okq (⟨"StatuteBook$Reader", "readDigits", "(I)I"⟩, 4) := ⟨⟨by decide +kernel, by decide +kernel⟩, List.mem_of_getElem? (i := 28) (by decide +kernel), List.mem_of_getElem? (i := 342) (by decide +kernel), List.mem_of_getElem? (i := 343) (by decide +kernel)⟩
theorem lw_p7 : lw_okq (⟨"StatuteBook$Reader", "readWords", "()V"⟩, 4) := ⟨⟨by decide +kernel, by decide +kernel⟩, List.mem_of_getElem? (i := 28) (by decide +kernel), List.mem_of_getElem? (i := 358) (by decide +kernel), List.mem_of_getElem? (i := 359) (by decide +kernel)⟩
theorem lw_p8 : lw_okq (⟨"StatuteBook$Reader", "isAtWord", "()Z"⟩, 4) := ⟨⟨by decide +kernel, by decide +kernel⟩, List.mem_of_getElem? (i := 28) (by decide +kernel), List.mem_of_getElem? (i := 362) (by decide +kernel), List.mem_of_getElem? (i := 363) (by decide +kernel)⟩
theorem lw_p9 : lw_okq (⟨"StatuteBook$Reader", "expect", "(Ljava/lang/String;)V"⟩, 4) := ⟨⟨by decide +kernel, by decide +kernel⟩, List.mem_of_getElem? (i := 28) (by decide +kernel), List.mem_of_getElem? (i := 375) (by decide +kernel), List.mem_of_getElem? (i := 376) (by decide +kernel)⟩
theorem lw_p10 : lw_okq (⟨"StatuteBook$Reader", "readPlain", "()I"⟩, 4) := ⟨⟨by decide +kernel, by decide +kernel⟩, List.mem_of_getElem? (i := 28) (by decide +kernel), List.mem_of_getElem? (i := 381) (by decide +kernel), List.mem_of_getElem? (i := 382) (by decide +kernel)⟩
theorem lw_p11 : lw_okq (⟨"StatuteBook$Reader", "readSaving", "()V"⟩, 4) := ⟨⟨by decide +kernel, by decide +kernel⟩, List.mem_of_getElem? (i := 28) (by decide +kernel), List.mem_of_getElem? (i := 386) (by decide +kernel), List.mem_of_getElem? (i := 387) (by decide +kernel)⟩
theorem lw_p12 : lw_okq (⟨"StatuteBook$Reader", "readSemicolon", "()Z"⟩, 4) := ⟨⟨by decide +kernel, by decide +kernel⟩, List.mem_of_getElem? (i := 28) (by decide +kernel), List.mem_of_getElem? (i := 391) (by decide +kernel), List.mem_of_getElem? (i := 392) (by decide +kernel)⟩
theorem lw_p13 : lw_okq (⟨"StatuteBook", "addDraft", "(I)I"⟩, 7) := ⟨⟨by decide +kernel, by decide +kernel⟩, List.mem_of_getElem? (i := 20) (by decide +kernel), List.mem_of_getElem? (i := 395) (by decide +kernel), List.mem_of_getElem? (i := 396) (by decide +kernel)⟩
theorem lw_p14 : lw_okq (⟨"StatuteBook$Archive", "putAway", "(ILStatuteBook$Amendments;)V"⟩, 4) := ⟨⟨by decide +kernel, by decide +kernel⟩, List.mem_of_getElem? (i := 109) (by decide +kernel), List.mem_of_getElem? (i := 426) (by decide +kernel), List.mem_of_getElem? (i := 427) (by decide +kernel)⟩
theorem lw_p15 : lw_okq (⟨"StatuteBook$Archive", "bring", "(ILStatuteBook$Amendments;)V"⟩, 4) := ⟨⟨by decide +kernel, by decide +kernel⟩, List.mem_of_getElem? (i := 109) (by decide +kernel), List.mem_of_getElem? (i := 508) (by decide +kernel), List.mem_of_getElem? (i := 509) (by decide +kernel)⟩
def lw_privs_1 : List (MethodName × Nat) := [(⟨"StatuteBook$Reader", "readOperation", "()V"⟩, 4), (⟨"StatuteBook$Reader", "skipBlanks", "()V"⟩, 4), (⟨"StatuteBook$Reader", "readKind", "()I"⟩, 4), (⟨"StatuteBook$Reader", "passes", "(Ljava/lang/String;)Z"⟩, 4), (⟨"StatuteBook$Reader", "fail", "(I)V"⟩, 4), (⟨"StatuteBook$Reader", "readNumber", "()I"⟩, 4), (⟨"StatuteBook$Reader", "readDigits", "(I)I"⟩, 4), (⟨"StatuteBook$Reader", "readWords", "()V"⟩, 4), (⟨"StatuteBook$Reader", "isAtWord", "()Z"⟩, 4), (⟨"StatuteBook$Reader", "expect", "(Ljava/lang/String;)V"⟩, 4), (⟨"StatuteBook$Reader", "readPlain", "()I"⟩, 4), (⟨"StatuteBook$Reader", "readSaving", "()V"⟩, 4), (⟨"StatuteBook$Reader", "readSemicolon", "()Z"⟩, 4), (⟨"StatuteBook", "addDraft", "(I)I"⟩, 7), (⟨"StatuteBook$Archive", "putAway", "(ILStatuteBook$Amendments;)V"⟩, 4), (⟨"StatuteBook$Archive", "bring", "(ILStatuteBook$Amendments;)V"⟩, 4)]
theorem lw_r1 : ∀ q ∈ lw_privs_1, lw_okq q := List.forall_mem_cons.mpr ⟨lw_p0, List.forall_mem_cons.mpr ⟨lw_p1, List.forall_mem_cons.mpr ⟨lw_p2, List.forall_mem_cons.mpr ⟨lw_p3, List.forall_mem_cons.mpr ⟨lw_p4, List.forall_mem_cons.mpr ⟨lw_p5, List.forall_mem_cons.mpr ⟨lw_p6, List.forall_mem_cons.mpr ⟨lw_p7, List.forall_mem_cons.mpr ⟨lw_p8, List.forall_mem_cons.mpr ⟨lw_p9, List.forall_mem_cons.mpr ⟨lw_p10, List.forall_mem_cons.mpr ⟨lw_p11, List.forall_mem_cons.mpr ⟨lw_p12, List.forall_mem_cons.mpr ⟨lw_p13, List.forall_mem_cons.mpr ⟨lw_p14, List.forall_mem_cons.mpr ⟨lw_p15, fun _ h => absurd h List.not_mem_nil⟩⟩⟩⟩⟩⟩⟩⟩⟩⟩⟩⟩⟩⟩⟩⟩
theorem lw_p16 : lw_okq (⟨"StatuteBook", "consolidateFully", "()V"⟩, 7) := ⟨⟨by decide +kernel, by decide +kernel⟩, List.mem_of_getElem? (i := 20) (by decide +kernel), List.mem_of_getElem? (i := 516) (by decide +kernel), List.mem_of_getElem? (i := 517) (by decide +kernel)⟩
theorem lw_p17 : lw_okq (⟨"StatuteBook$Law", "carryOut", "(LStatuteBook$Amendments;II)V"⟩, 11) := ⟨⟨by decide +kernel, by decide +kernel⟩, List.mem_of_getElem? (i := 130) (by decide +kernel), List.mem_of_getElem? (i := 536) (by decide +kernel), List.mem_of_getElem? (i := 537) (by decide +kernel)⟩
theorem lw_p18 : lw_okq (⟨"StatuteBook$Law", "holder", "(I)I"⟩, 11) := ⟨⟨by decide +kernel, by decide +kernel⟩, List.mem_of_getElem? (i := 130) (by decide +kernel), List.mem_of_getElem? (i := 542) (by decide +kernel), List.mem_of_getElem? (i := 543) (by decide +kernel)⟩
theorem lw_p19 : lw_okq (⟨"StatuteBook$Law", "resolves", "(LStatuteBook$Amendments;I)Z"⟩, 11) := ⟨⟨by decide +kernel, by decide +kernel⟩, List.mem_of_getElem? (i := 130) (by decide +kernel), List.mem_of_getElem? (i := 547) (by decide +kernel), List.mem_of_getElem? (i := 548) (by decide +kernel)⟩
theorem lw_p20 : lw_okq (⟨"StatuteBook$Law", "reason", "(LStatuteBook$Amendments;IIZ)I"⟩, 11) := ⟨⟨by decide +kernel, by decide +kernel⟩, List.mem_of_getElem? (i := 130) (by decide +kernel), List.mem_of_getElem? (i := 552) (by decide +kernel), List.mem_of_getElem? (i := 553) (by decide +kernel)⟩
theorem lw_p21 : lw_okq (⟨"StatuteBook$Law", "perform", "(LStatuteBook$Amendments;II)V"⟩, 11) := ⟨⟨by decide +kernel, by decide +kernel⟩, List.mem_of_getElem? (i := 130) (by decide +kernel), List.mem_of_getElem? (i := 560) (by decide +kernel), List.mem_of_getElem? (i := 561) (by decide +kernel)⟩
theorem lw_p22 : lw_okq (⟨"StatuteBook$Law", "setText", "(II)V"⟩, 11) := ⟨⟨by decide +kernel, by decide +kernel⟩, List.mem_of_getElem? (i := 130) (by decide +kernel), List.mem_of_getElem? (i := 564) (by decide +kernel), List.mem_of_getElem? (i := 565) (by decide +kernel)⟩
theorem lw_p23 : lw_okq (⟨"StatuteBook$Law", "change", "(III)V"⟩, 11) := ⟨⟨by decide +kernel, by decide +kernel⟩, List.mem_of_getElem? (i := 130) (by decide +kernel), List.mem_of_getElem? (i := 569) (by decide +kernel), List.mem_of_getElem? (i := 570) (by decide +kernel)⟩
theorem lw_p24 : lw_okq (⟨"StatuteBook$Law", "arrange", "()V"⟩, 11) := ⟨⟨by decide +kernel, by decide +kernel⟩, List.mem_of_getElem? (i := 130) (by decide +kernel), List.mem_of_getElem? (i := 573) (by decide +kernel), List.mem_of_getElem? (i := 574) (by decide +kernel)⟩
theorem lw_p25 : lw_okq (⟨"StatuteBook", "amendmentPart", "(II)I"⟩, 7) := ⟨⟨by decide +kernel, by decide +kernel⟩, List.mem_of_getElem? (i := 20) (by decide +kernel), List.mem_of_getElem? (i := 577) (by decide +kernel), List.mem_of_getElem? (i := 578) (by decide +kernel)⟩
theorem lw_p26 : lw_okq (⟨"StatuteBook", "operationPart", "(II)I"⟩, 7) := ⟨⟨by decide +kernel, by decide +kernel⟩, List.mem_of_getElem? (i := 20) (by decide +kernel), List.mem_of_getElem? (i := 604) (by decide +kernel), List.mem_of_getElem? (i := 605) (by decide +kernel)⟩
theorem lw_p27 : lw_okq (⟨"StatuteBook", "consolidate", "(II)V"⟩, 7) := ⟨⟨by decide +kernel, by decide +kernel⟩, List.mem_of_getElem? (i := 20) (by decide +kernel), List.mem_of_getElem? (i := 625) (by decide +kernel), List.mem_of_getElem? (i := 626) (by decide +kernel)⟩
theorem lw_p28 : lw_okq (⟨"StatuteBook", "clausePart", "(II)I"⟩, 7) := ⟨⟨by decide +kernel, by decide +kernel⟩, List.mem_of_getElem? (i := 20) (by decide +kernel), List.mem_of_getElem? (i := 641) (by decide +kernel), List.mem_of_getElem? (i := 642) (by decide +kernel)⟩
theorem lw_p29 : lw_okq (⟨"StatuteBook", "presentWord", "(II)I"⟩, 7) := ⟨⟨by decide +kernel, by decide +kernel⟩, List.mem_of_getElem? (i := 20) (by decide +kernel), List.mem_of_getElem? (i := 661) (by decide +kernel), List.mem_of_getElem? (i := 662) (by decide +kernel)⟩
theorem lw_p30 : lw_okq (⟨"StatuteBook", "printClause", "(I)V"⟩, 7) := ⟨⟨by decide +kernel, by decide +kernel⟩, List.mem_of_getElem? (i := 20) (by decide +kernel), List.mem_of_getElem? (i := 686) (by decide +kernel), List.mem_of_getElem? (i := 687) (by decide +kernel)⟩
theorem lw_p31 : lw_okq (⟨"StatuteBook", "isIdentity", "(I)Z"⟩, 7) := ⟨⟨by decide +kernel, by decide +kernel⟩, List.mem_of_getElem? (i := 20) (by decide +kernel), List.mem_of_getElem? (i := 713) (by decide +kernel), List.mem_of_getElem? (i := 714) (by decide +kernel)⟩
def lw_privs_2 : List (MethodName × Nat) := [(⟨"StatuteBook", "consolidateFully", "()V"⟩, 7), (⟨"StatuteBook$Law", "carryOut", "(LStatuteBook$Amendments;II)V"⟩, 11), (⟨"StatuteBook$Law", "holder", "(I)I"⟩, 11), (⟨"StatuteBook$Law", "resolves", "(LStatuteBook$Amendments;I)Z"⟩, 11), (⟨"StatuteBook$Law", "reason", "(LStatuteBook$Amendments;IIZ)I"⟩, 11), (⟨"StatuteBook$Law", "perform", "(LStatuteBook$Amendments;II)V"⟩, 11), (⟨"StatuteBook$Law", "setText", "(II)V"⟩, 11), (⟨"StatuteBook$Law", "change", "(III)V"⟩, 11), (⟨"StatuteBook$Law", "arrange", "()V"⟩, 11), (⟨"StatuteBook", "amendmentPart", "(II)I"⟩, 7), (⟨"StatuteBook", "operationPart", "(II)I"⟩, 7), (⟨"StatuteBook", "consolidate", "(II)V"⟩, 7), (⟨"StatuteBook", "clausePart", "(II)I"⟩, 7), (⟨"StatuteBook", "presentWord", "(II)I"⟩, 7), (⟨"StatuteBook", "printClause", "(I)V"⟩, 7), (⟨"StatuteBook", "isIdentity", "(I)Z"⟩, 7)]
theorem lw_r2 : ∀ q ∈ lw_privs_2, lw_okq q := List.forall_mem_cons.mpr ⟨lw_p16, List.forall_mem_cons.mpr ⟨lw_p17, List.forall_mem_cons.mpr ⟨lw_p18, List.forall_mem_cons.mpr ⟨lw_p19, List.forall_mem_cons.mpr ⟨lw_p20, List.forall_mem_cons.mpr ⟨lw_p21, List.forall_mem_cons.mpr ⟨lw_p22, List.forall_mem_cons.mpr ⟨lw_p23, List.forall_mem_cons.mpr ⟨lw_p24, List.forall_mem_cons.mpr ⟨lw_p25, List.forall_mem_cons.mpr ⟨lw_p26, List.forall_mem_cons.mpr ⟨lw_p27, List.forall_mem_cons.mpr ⟨lw_p28, List.forall_mem_cons.mpr ⟨lw_p29, List.forall_mem_cons.mpr ⟨lw_p30, List.forall_mem_cons.mpr ⟨lw_p31, fun _ h => absurd h List.not_mem_nil⟩⟩⟩⟩⟩⟩⟩⟩⟩⟩⟩⟩⟩⟩⟩⟩
theorem lw_p32 : lw_okq (⟨"StatuteBook", "differs", "(II)Z"⟩, 7) := ⟨⟨by decide +kernel, by decide +kernel⟩, List.mem_of_getElem? (i := 20) (by decide +kernel), List.mem_of_getElem? (i := 731) (by decide +kernel), List.mem_of_getElem? (i := 732) (by decide +kernel)⟩
theorem lw_p33 : lw_okq (⟨"StatuteBook", "referencesFrom", "(II)I"⟩, 7) := ⟨⟨by decide +kernel, by decide +kernel⟩, List.mem_of_getElem? (i := 20) (by decide +kernel), List.mem_of_getElem? (i := 753) (by decide +kernel), List.mem_of_getElem? (i := 754) (by decide +kernel)⟩
theorem lw_p34 : lw_okq (⟨"StatuteBook$Walk", "meet", "(II)V"⟩, 4) := ⟨⟨by decide +kernel, by decide +kernel⟩, List.mem_of_getElem? (i := 172) (by decide +kernel), List.mem_of_getElem? (i := 770) (by decide +kernel), List.mem_of_getElem? (i := 771) (by decide +kernel)⟩
theorem lw_p35 : lw_okq (⟨"StatuteBook", "tallyPart", "(I)I"⟩, 7) := ⟨⟨by decide +kernel, by decide +kernel⟩, List.mem_of_getElem? (i := 20) (by decide +kernel), List.mem_of_getElem? (i := 795) (by decide +kernel), List.mem_of_getElem? (i := 796) (by decide +kernel)⟩
theorem lw_p36 : lw_okq (⟨"StatuteBook", "conflicts", "()I"⟩, 7) := ⟨⟨by decide +kernel, by decide +kernel⟩, List.mem_of_getElem? (i := 20) (by decide +kernel), List.mem_of_getElem? (i := 799) (by decide +kernel), List.mem_of_getElem? (i := 800) (by decide +kernel)⟩
theorem lw_p37 : lw_okq (⟨"StatuteBook", "clash", "(II)Z"⟩, 7) := ⟨⟨by decide +kernel, by decide +kernel⟩, List.mem_of_getElem? (i := 20) (by decide +kernel), List.mem_of_getElem? (i := 804) (by decide +kernel), List.mem_of_getElem? (i := 805) (by decide +kernel)⟩
theorem lw_p38 : lw_okq (⟨"StatuteBook", "conflictPart", "(III)I"⟩, 7) := ⟨⟨by decide +kernel, by decide +kernel⟩, List.mem_of_getElem? (i := 20) (by decide +kernel), List.mem_of_getElem? (i := 812) (by decide +kernel), List.mem_of_getElem? (i := 813) (by decide +kernel)⟩
theorem lw_p39 : lw_okq (⟨"StatuteBook", "vanishes", "(III)Z"⟩, 7) := ⟨⟨by decide +kernel, by decide +kernel⟩, List.mem_of_getElem? (i := 20) (by decide +kernel), List.mem_of_getElem? (i := 824) (by decide +kernel), List.mem_of_getElem? (i := 825) (by decide +kernel)⟩
theorem lw_p40 : lw_okq (⟨"StatuteBook", "isCarriedOut", "(II)Z"⟩, 7) := ⟨⟨by decide +kernel, by decide +kernel⟩, List.mem_of_getElem? (i := 20) (by decide +kernel), List.mem_of_getElem? (i := 828) (by decide +kernel), List.mem_of_getElem? (i := 829) (by decide +kernel)⟩
theorem lw_p41 : lw_okq (⟨"StatuteBook", "draftTidying", "(LStatuteBook$Draft;)V"⟩, 7) := ⟨⟨by decide +kernel, by decide +kernel⟩, List.mem_of_getElem? (i := 20) (by decide +kernel), List.mem_of_getElem? (i := 844) (by decide +kernel), List.mem_of_getElem? (i := 845) (by decide +kernel)⟩
theorem lw_p42 : lw_okq (⟨"StatuteBook", "countPart", "(I)I"⟩, 7) := ⟨⟨by decide +kernel, by decide +kernel⟩, List.mem_of_getElem? (i := 20) (by decide +kernel), List.mem_of_getElem? (i := 876) (by decide +kernel), List.mem_of_getElem? (i := 877) (by decide +kernel)⟩
theorem lw_p43 : lw_okq (⟨"StatuteBook", "mixedAmendment", "(JI)J"⟩, 7) := ⟨⟨by decide +kernel, by decide +kernel⟩, List.mem_of_getElem? (i := 20) (by decide +kernel), List.mem_of_getElem? (i := 900) (by decide +kernel), List.mem_of_getElem? (i := 901) (by decide +kernel)⟩
theorem lw_p44 : lw_okq (⟨"StatuteBook", "mixedClause", "(JI)J"⟩, 7) := ⟨⟨by decide +kernel, by decide +kernel⟩, List.mem_of_getElem? (i := 20) (by decide +kernel), List.mem_of_getElem? (i := 904) (by decide +kernel), List.mem_of_getElem? (i := 905) (by decide +kernel)⟩
theorem lw_p45 : lw_okq (⟨"StatuteBookModel", "readsAll", "()V"⟩, 31) := ⟨⟨by decide +kernel, by decide +kernel⟩, List.mem_of_getElem? (i := 911) (by decide +kernel), List.mem_of_getElem? (i := 1029) (by decide +kernel), List.mem_of_getElem? (i := 1030) (by decide +kernel)⟩
theorem lw_p46 : lw_okq (⟨"StatuteBookModel", "skips", "()V"⟩, 31) := ⟨⟨by decide +kernel, by decide +kernel⟩, List.mem_of_getElem? (i := 911) (by decide +kernel), List.mem_of_getElem? (i := 1033) (by decide +kernel), List.mem_of_getElem? (i := 1034) (by decide +kernel)⟩
theorem lw_p47 : lw_okq (⟨"StatuteBookModel", "byteAt", "(I)I"⟩, 31) := ⟨⟨by decide +kernel, by decide +kernel⟩, List.mem_of_getElem? (i := 911) (by decide +kernel), List.mem_of_getElem? (i := 1037) (by decide +kernel), List.mem_of_getElem? (i := 1038) (by decide +kernel)⟩
def lw_privs_3 : List (MethodName × Nat) := [(⟨"StatuteBook", "differs", "(II)Z"⟩, 7), (⟨"StatuteBook", "referencesFrom", "(II)I"⟩, 7), (⟨"StatuteBook$Walk", "meet", "(II)V"⟩, 4), (⟨"StatuteBook", "tallyPart", "(I)I"⟩, 7), (⟨"StatuteBook", "conflicts", "()I"⟩, 7), (⟨"StatuteBook", "clash", "(II)Z"⟩, 7), (⟨"StatuteBook", "conflictPart", "(III)I"⟩, 7), (⟨"StatuteBook", "vanishes", "(III)Z"⟩, 7), (⟨"StatuteBook", "isCarriedOut", "(II)Z"⟩, 7), (⟨"StatuteBook", "draftTidying", "(LStatuteBook$Draft;)V"⟩, 7), (⟨"StatuteBook", "countPart", "(I)I"⟩, 7), (⟨"StatuteBook", "mixedAmendment", "(JI)J"⟩, 7), (⟨"StatuteBook", "mixedClause", "(JI)J"⟩, 7), (⟨"StatuteBookModel", "readsAll", "()V"⟩, 31), (⟨"StatuteBookModel", "skips", "()V"⟩, 31), (⟨"StatuteBookModel", "byteAt", "(I)I"⟩, 31)]
theorem lw_r3 : ∀ q ∈ lw_privs_3, lw_okq q := List.forall_mem_cons.mpr ⟨lw_p32, List.forall_mem_cons.mpr ⟨lw_p33, List.forall_mem_cons.mpr ⟨lw_p34, List.forall_mem_cons.mpr ⟨lw_p35, List.forall_mem_cons.mpr ⟨lw_p36, List.forall_mem_cons.mpr ⟨lw_p37, List.forall_mem_cons.mpr ⟨lw_p38, List.forall_mem_cons.mpr ⟨lw_p39, List.forall_mem_cons.mpr ⟨lw_p40, List.forall_mem_cons.mpr ⟨lw_p41, List.forall_mem_cons.mpr ⟨lw_p42, List.forall_mem_cons.mpr ⟨lw_p43, List.forall_mem_cons.mpr ⟨lw_p44, List.forall_mem_cons.mpr ⟨lw_p45, List.forall_mem_cons.mpr ⟨lw_p46, List.forall_mem_cons.mpr ⟨lw_p47, fun _ h => absurd h List.not_mem_nil⟩⟩⟩⟩⟩⟩⟩⟩⟩⟩⟩⟩⟩⟩⟩⟩
theorem lw_p48 : lw_okq (⟨"StatuteBookModel", "readsOperation", "()V"⟩, 31) := ⟨⟨by decide +kernel, by decide +kernel⟩, List.mem_of_getElem? (i := 911) (by decide +kernel), List.mem_of_getElem? (i := 1041) (by decide +kernel), List.mem_of_getElem? (i := 1042) (by decide +kernel)⟩
theorem lw_p49 : lw_okq (⟨"StatuteBookModel", "fails", "(I)V"⟩, 31) := ⟨⟨by decide +kernel, by decide +kernel⟩, List.mem_of_getElem? (i := 911) (by decide +kernel), List.mem_of_getElem? (i := 1045) (by decide +kernel), List.mem_of_getElem? (i := 1046) (by decide +kernel)⟩
theorem lw_p50 : lw_okq (⟨"StatuteBookModel", "puts", "(II)V"⟩, 31) := ⟨⟨by decide +kernel, by decide +kernel⟩, List.mem_of_getElem? (i := 911) (by decide +kernel), List.mem_of_getElem? (i := 1049) (by decide +kernel), List.mem_of_getElem? (i := 1050) (by decide +kernel)⟩
theorem lw_p51 : lw_okq (⟨"StatuteBookModel", "readsLetters", "()J"⟩, 31) := ⟨⟨by decide +kernel, by decide +kernel⟩, List.mem_of_getElem? (i := 911) (by decide +kernel), List.mem_of_getElem? (i := 1053) (by decide +kernel), List.mem_of_getElem? (i := 1054) (by decide +kernel)⟩
theorem lw_p52 : lw_okq (⟨"StatuteBookModel", "isSmall", "(I)Z"⟩, 31) := ⟨⟨by decide +kernel, by decide +kernel⟩, List.mem_of_getElem? (i := 911) (by decide +kernel), List.mem_of_getElem? (i := 1057) (by decide +kernel), List.mem_of_getElem? (i := 1058) (by decide +kernel)⟩
theorem lw_p53 : lw_okq (⟨"StatuteBookModel", "numberBehindBlanks", "()I"⟩, 31) := ⟨⟨by decide +kernel, by decide +kernel⟩, List.mem_of_getElem? (i := 911) (by decide +kernel), List.mem_of_getElem? (i := 1070) (by decide +kernel), List.mem_of_getElem? (i := 1071) (by decide +kernel)⟩
theorem lw_p54 : lw_okq (⟨"StatuteBookModel", "readsNumber", "()I"⟩, 31) := ⟨⟨by decide +kernel, by decide +kernel⟩, List.mem_of_getElem? (i := 911) (by decide +kernel), List.mem_of_getElem? (i := 1074) (by decide +kernel), List.mem_of_getElem? (i := 1075) (by decide +kernel)⟩
theorem lw_p55 : lw_okq (⟨"StatuteBookModel", "readsDigits", "(Z)I"⟩, 31) := ⟨⟨by decide +kernel, by decide +kernel⟩, List.mem_of_getElem? (i := 911) (by decide +kernel), List.mem_of_getElem? (i := 1078) (by decide +kernel), List.mem_of_getElem? (i := 1079) (by decide +kernel)⟩
theorem lw_p56 : lw_okq (⟨"StatuteBookModel", "isDigit", "(I)Z"⟩, 31) := ⟨⟨by decide +kernel, by decide +kernel⟩, List.mem_of_getElem? (i := 911) (by decide +kernel), List.mem_of_getElem? (i := 1082) (by decide +kernel), List.mem_of_getElem? (i := 1083) (by decide +kernel)⟩
theorem lw_p57 : lw_okq (⟨"StatuteBookModel", "letter", "()I"⟩, 31) := ⟨⟨by decide +kernel, by decide +kernel⟩, List.mem_of_getElem? (i := 911) (by decide +kernel), List.mem_of_getElem? (i := 1086) (by decide +kernel), List.mem_of_getElem? (i := 1087) (by decide +kernel)⟩
theorem lw_p58 : lw_okq (⟨"StatuteBookModel", "readsWords", "()V"⟩, 31) := ⟨⟨by decide +kernel, by decide +kernel⟩, List.mem_of_getElem? (i := 911) (by decide +kernel), List.mem_of_getElem? (i := 1090) (by decide +kernel), List.mem_of_getElem? (i := 1091) (by decide +kernel)⟩
theorem lw_p59 : lw_okq (⟨"StatuteBookModel", "needsWord", "(J)V"⟩, 31) := ⟨⟨by decide +kernel, by decide +kernel⟩, List.mem_of_getElem? (i := 911) (by decide +kernel), List.mem_of_getElem? (i := 1094) (by decide +kernel), List.mem_of_getElem? (i := 1095) (by decide +kernel)⟩
theorem lw_p60 : lw_okq (⟨"StatuteBookModel", "plainBehindBlanks", "()I"⟩, 31) := ⟨⟨by decide +kernel, by decide +kernel⟩, List.mem_of_getElem? (i := 911) (by decide +kernel), List.mem_of_getElem? (i := 1098) (by decide +kernel), List.mem_of_getElem? (i := 1099) (by decide +kernel)⟩
theorem lw_p61 : lw_okq (⟨"StatuteBookModel", "readsSaving", "()V"⟩, 31) := ⟨⟨by decide +kernel, by decide +kernel⟩, List.mem_of_getElem? (i := 911) (by decide +kernel), List.mem_of_getElem? (i := 1102) (by decide +kernel), List.mem_of_getElem? (i := 1103) (by decide +kernel)⟩
theorem lw_p62 : lw_okq (⟨"StatuteBookModel", "adds", "(I)I"⟩, 31) := ⟨⟨by decide +kernel, by decide +kernel⟩, List.mem_of_getElem? (i := 911) (by decide +kernel), List.mem_of_getElem? (i := 1106) (by decide +kernel), List.mem_of_getElem? (i := 1107) (by decide +kernel)⟩
theorem lw_p63 : lw_okq (⟨"StatuteBookModel", "readInserts", "()I"⟩, 31) := ⟨⟨by decide +kernel, by decide +kernel⟩, List.mem_of_getElem? (i := 911) (by decide +kernel), List.mem_of_getElem? (i := 1110) (by decide +kernel), List.mem_of_getElem? (i := 1111) (by decide +kernel)⟩
def lw_privs_4 : List (MethodName × Nat) := [(⟨"StatuteBookModel", "readsOperation", "()V"⟩, 31), (⟨"StatuteBookModel", "fails", "(I)V"⟩, 31), (⟨"StatuteBookModel", "puts", "(II)V"⟩, 31), (⟨"StatuteBookModel", "readsLetters", "()J"⟩, 31), (⟨"StatuteBookModel", "isSmall", "(I)Z"⟩, 31), (⟨"StatuteBookModel", "numberBehindBlanks", "()I"⟩, 31), (⟨"StatuteBookModel", "readsNumber", "()I"⟩, 31), (⟨"StatuteBookModel", "readsDigits", "(Z)I"⟩, 31), (⟨"StatuteBookModel", "isDigit", "(I)Z"⟩, 31), (⟨"StatuteBookModel", "letter", "()I"⟩, 31), (⟨"StatuteBookModel", "readsWords", "()V"⟩, 31), (⟨"StatuteBookModel", "needsWord", "(J)V"⟩, 31), (⟨"StatuteBookModel", "plainBehindBlanks", "()I"⟩, 31), (⟨"StatuteBookModel", "readsSaving", "()V"⟩, 31), (⟨"StatuteBookModel", "adds", "(I)I"⟩, 31), (⟨"StatuteBookModel", "readInserts", "()I"⟩, 31)]
theorem lw_r4 : ∀ q ∈ lw_privs_4, lw_okq q := List.forall_mem_cons.mpr ⟨lw_p48, List.forall_mem_cons.mpr ⟨lw_p49, List.forall_mem_cons.mpr ⟨lw_p50, List.forall_mem_cons.mpr ⟨lw_p51, List.forall_mem_cons.mpr ⟨lw_p52, List.forall_mem_cons.mpr ⟨lw_p53, List.forall_mem_cons.mpr ⟨lw_p54, List.forall_mem_cons.mpr ⟨lw_p55, List.forall_mem_cons.mpr ⟨lw_p56, List.forall_mem_cons.mpr ⟨lw_p57, List.forall_mem_cons.mpr ⟨lw_p58, List.forall_mem_cons.mpr ⟨lw_p59, List.forall_mem_cons.mpr ⟨lw_p60, List.forall_mem_cons.mpr ⟨lw_p61, List.forall_mem_cons.mpr ⟨lw_p62, List.forall_mem_cons.mpr ⟨lw_p63, fun _ h => absurd h List.not_mem_nil⟩⟩⟩⟩⟩⟩⟩⟩⟩⟩⟩⟩⟩⟩⟩⟩
theorem lw_p64 : lw_okq (⟨"StatuteBookModel", "operations", "()I"⟩, 31) := ⟨⟨by decide +kernel, by decide +kernel⟩, List.mem_of_getElem? (i := 911) (by decide +kernel), List.mem_of_getElem? (i := 1114) (by decide +kernel), List.mem_of_getElem? (i := 1115) (by decide +kernel)⟩
theorem lw_p65 : lw_okq (⟨"StatuteBookModel", "identities", "()I"⟩, 31) := ⟨⟨by decide +kernel, by decide +kernel⟩, List.mem_of_getElem? (i := 911) (by decide +kernel), List.mem_of_getElem? (i := 1118) (by decide +kernel), List.mem_of_getElem? (i := 1119) (by decide +kernel)⟩
theorem lw_p66 : lw_okq (⟨"StatuteBookModel", "identitiesAhead", "(I)I"⟩, 31) := ⟨⟨by decide +kernel, by decide +kernel⟩, List.mem_of_getElem? (i := 911) (by decide +kernel), List.mem_of_getElem? (i := 1122) (by decide +kernel), List.mem_of_getElem? (i := 1123) (by decide +kernel)⟩
theorem lw_p67 : lw_okq (⟨"StatuteBookModel", "part", "(II)I"⟩, 31) := ⟨⟨by decide +kernel, by decide +kernel⟩, List.mem_of_getElem? (i := 911) (by decide +kernel), List.mem_of_getElem? (i := 1126) (by decide +kernel), List.mem_of_getElem? (i := 1127) (by decide +kernel)⟩
theorem lw_p68 : lw_okq (⟨"StatuteBookModel", "keeps", "()V"⟩, 31) := ⟨⟨by decide +kernel, by decide +kernel⟩, List.mem_of_getElem? (i := 911) (by decide +kernel), List.mem_of_getElem? (i := 1130) (by decide +kernel), List.mem_of_getElem? (i := 1131) (by decide +kernel)⟩
theorem lw_p69 : lw_okq (⟨"StatuteBookModel", "isAmendment", "(I)Z"⟩, 31) := ⟨⟨by decide +kernel, by decide +kernel⟩, List.mem_of_getElem? (i := 911) (by decide +kernel), List.mem_of_getElem? (i := 1138) (by decide +kernel), List.mem_of_getElem? (i := 1139) (by decide +kernel)⟩
theorem lw_p70 : lw_okq (⟨"StatuteBookModel", "fullLaw", "()V"⟩, 31) := ⟨⟨by decide +kernel, by decide +kernel⟩, List.mem_of_getElem? (i := 911) (by decide +kernel), List.mem_of_getElem? (i := 1158) (by decide +kernel), List.mem_of_getElem? (i := 1159) (by decide +kernel)⟩
theorem lw_p71 : lw_okq (⟨"StatuteBookModel", "laws", "(II)V"⟩, 31) := ⟨⟨by decide +kernel, by decide +kernel⟩, List.mem_of_getElem? (i := 911) (by decide +kernel), List.mem_of_getElem? (i := 1162) (by decide +kernel), List.mem_of_getElem? (i := 1163) (by decide +kernel)⟩
theorem lw_p72 : lw_okq (⟨"StatuteBookModel", "offAsRevoked", "()V"⟩, 31) := ⟨⟨by decide +kernel, by decide +kernel⟩, List.mem_of_getElem? (i := 911) (by decide +kernel), List.mem_of_getElem? (i := 1166) (by decide +kernel), List.mem_of_getElem? (i := 1167) (by decide +kernel)⟩
theorem lw_p73 : lw_okq (⟨"StatuteBookModel", "consolidates", "(II)V"⟩, 31) := ⟨⟨by decide +kernel, by decide +kernel⟩, List.mem_of_getElem? (i := 911) (by decide +kernel), List.mem_of_getElem? (i := 1170) (by decide +kernel), List.mem_of_getElem? (i := 1171) (by decide +kernel)⟩
theorem lw_p74 : lw_okq (⟨"StatuteBookModel", "nextAmendment", "(III)I"⟩, 31) := ⟨⟨by decide +kernel, by decide +kernel⟩, List.mem_of_getElem? (i := 911) (by decide +kernel), List.mem_of_getElem? (i := 1174) (by decide +kernel), List.mem_of_getElem? (i := 1175) (by decide +kernel)⟩
theorem lw_p75 : lw_okq (⟨"StatuteBookModel", "firstOf", "(I)I"⟩, 31) := ⟨⟨by decide +kernel, by decide +kernel⟩, List.mem_of_getElem? (i := 911) (by decide +kernel), List.mem_of_getElem? (i := 1178) (by decide +kernel), List.mem_of_getElem? (i := 1179) (by decide +kernel)⟩
theorem lw_p76 : lw_okq (⟨"StatuteBookModel", "carriesOut", "(II)V"⟩, 31) := ⟨⟨by decide +kernel, by decide +kernel⟩, List.mem_of_getElem? (i := 911) (by decide +kernel), List.mem_of_getElem? (i := 1182) (by decide +kernel), List.mem_of_getElem? (i := 1183) (by decide +kernel)⟩
theorem lw_p77 : lw_okq (⟨"StatuteBookModel", "withCode", "(I)I"⟩, 31) := ⟨⟨by decide +kernel, by decide +kernel⟩, List.mem_of_getElem? (i := 911) (by decide +kernel), List.mem_of_getElem? (i := 1186) (by decide +kernel), List.mem_of_getElem? (i := 1187) (by decide +kernel)⟩
theorem lw_p78 : lw_okq (⟨"StatuteBookModel", "reasonOf", "(II)I"⟩, 31) := ⟨⟨by decide +kernel, by decide +kernel⟩, List.mem_of_getElem? (i := 911) (by decide +kernel), List.mem_of_getElem? (i := 1190) (by decide +kernel), List.mem_of_getElem? (i := 1191) (by decide +kernel)⟩
theorem lw_p79 : lw_okq (⟨"StatuteBookModel", "hasWord", "(II)Z"⟩, 31) := ⟨⟨by decide +kernel, by decide +kernel⟩, List.mem_of_getElem? (i := 911) (by decide +kernel), List.mem_of_getElem? (i := 1194) (by decide +kernel), List.mem_of_getElem? (i := 1195) (by decide +kernel)⟩
def lw_privs_5 : List (MethodName × Nat) := [(⟨"StatuteBookModel", "operations", "()I"⟩, 31), (⟨"StatuteBookModel", "identities", "()I"⟩, 31), (⟨"StatuteBookModel", "identitiesAhead", "(I)I"⟩, 31), (⟨"StatuteBookModel", "part", "(II)I"⟩, 31), (⟨"StatuteBookModel", "keeps", "()V"⟩, 31), (⟨"StatuteBookModel", "isAmendment", "(I)Z"⟩, 31), (⟨"StatuteBookModel", "fullLaw", "()V"⟩, 31), (⟨"StatuteBookModel", "laws", "(II)V"⟩, 31), (⟨"StatuteBookModel", "offAsRevoked", "()V"⟩, 31), (⟨"StatuteBookModel", "consolidates", "(II)V"⟩, 31), (⟨"StatuteBookModel", "nextAmendment", "(III)I"⟩, 31), (⟨"StatuteBookModel", "firstOf", "(I)I"⟩, 31), (⟨"StatuteBookModel", "carriesOut", "(II)V"⟩, 31), (⟨"StatuteBookModel", "withCode", "(I)I"⟩, 31), (⟨"StatuteBookModel", "reasonOf", "(II)I"⟩, 31), (⟨"StatuteBookModel", "hasWord", "(II)Z"⟩, 31)]
theorem lw_r5 : ∀ q ∈ lw_privs_5, lw_okq q := List.forall_mem_cons.mpr ⟨lw_p64, List.forall_mem_cons.mpr ⟨lw_p65, List.forall_mem_cons.mpr ⟨lw_p66, List.forall_mem_cons.mpr ⟨lw_p67, List.forall_mem_cons.mpr ⟨lw_p68, List.forall_mem_cons.mpr ⟨lw_p69, List.forall_mem_cons.mpr ⟨lw_p70, List.forall_mem_cons.mpr ⟨lw_p71, List.forall_mem_cons.mpr ⟨lw_p72, List.forall_mem_cons.mpr ⟨lw_p73, List.forall_mem_cons.mpr ⟨lw_p74, List.forall_mem_cons.mpr ⟨lw_p75, List.forall_mem_cons.mpr ⟨lw_p76, List.forall_mem_cons.mpr ⟨lw_p77, List.forall_mem_cons.mpr ⟨lw_p78, List.forall_mem_cons.mpr ⟨lw_p79, fun _ h => absurd h List.not_mem_nil⟩⟩⟩⟩⟩⟩⟩⟩⟩⟩⟩⟩⟩⟩⟩⟩
theorem lw_p80 : lw_okq (⟨"StatuteBookModel", "areReferred", "(I)Z"⟩, 31) := ⟨⟨by decide +kernel, by decide +kernel⟩, List.mem_of_getElem? (i := 911) (by decide +kernel), List.mem_of_getElem? (i := 1198) (by decide +kernel), List.mem_of_getElem? (i := 1199) (by decide +kernel)⟩
theorem lw_p81 : lw_okq (⟨"StatuteBookModel", "setsText", "(II)V"⟩, 31) := ⟨⟨by decide +kernel, by decide +kernel⟩, List.mem_of_getElem? (i := 911) (by decide +kernel), List.mem_of_getElem? (i := 1202) (by decide +kernel), List.mem_of_getElem? (i := 1203) (by decide +kernel)⟩
theorem lw_p82 : lw_okq (⟨"StatuteBookModel", "statusOf", "(I)I"⟩, 31) := ⟨⟨by decide +kernel, by decide +kernel⟩, List.mem_of_getElem? (i := 911) (by decide +kernel), List.mem_of_getElem? (i := 1206) (by decide +kernel), List.mem_of_getElem? (i := 1207) (by decide +kernel)⟩
theorem lw_p83 : lw_okq (⟨"StatuteBookModel", "amendmentOf", "(I)I"⟩, 31) := ⟨⟨by decide +kernel, by decide +kernel⟩, List.mem_of_getElem? (i := 911) (by decide +kernel), List.mem_of_getElem? (i := 1210) (by decide +kernel), List.mem_of_getElem? (i := 1211) (by decide +kernel)⟩
theorem lw_p84 : lw_okq (⟨"StatuteBookModel", "isOperation", "(II)Z"⟩, 31) := ⟨⟨by decide +kernel, by decide +kernel⟩, List.mem_of_getElem? (i := 911) (by decide +kernel), List.mem_of_getElem? (i := 1218) (by decide +kernel), List.mem_of_getElem? (i := 1219) (by decide +kernel)⟩
theorem lw_p85 : lw_okq (⟨"StatuteBookModel", "told", "(II)I"⟩, 31) := ⟨⟨by decide +kernel, by decide +kernel⟩, List.mem_of_getElem? (i := 911) (by decide +kernel), List.mem_of_getElem? (i := 1222) (by decide +kernel), List.mem_of_getElem? (i := 1223) (by decide +kernel)⟩
theorem lw_p86 : lw_okq (⟨"StatuteBookModel", "inForce", "()I"⟩, 31) := ⟨⟨by decide +kernel, by decide +kernel⟩, List.mem_of_getElem? (i := 911) (by decide +kernel), List.mem_of_getElem? (i := 1237) (by decide +kernel), List.mem_of_getElem? (i := 1238) (by decide +kernel)⟩
theorem lw_p87 : lw_okq (⟨"StatuteBookModel", "atIndex", "(I)I"⟩, 31) := ⟨⟨by decide +kernel, by decide +kernel⟩, List.mem_of_getElem? (i := 911) (by decide +kernel), List.mem_of_getElem? (i := 1245) (by decide +kernel), List.mem_of_getElem? (i := 1246) (by decide +kernel)⟩
theorem lw_p88 : lw_okq (⟨"StatuteBookModel", "indexOf", "(I)I"⟩, 31) := ⟨⟨by decide +kernel, by decide +kernel⟩, List.mem_of_getElem? (i := 911) (by decide +kernel), List.mem_of_getElem? (i := 1249) (by decide +kernel), List.mem_of_getElem? (i := 1250) (by decide +kernel)⟩
theorem lw_p89 : lw_okq (⟨"StatuteBookModel", "about", "(II)I"⟩, 31) := ⟨⟨by decide +kernel, by decide +kernel⟩, List.mem_of_getElem? (i := 911) (by decide +kernel), List.mem_of_getElem? (i := 1253) (by decide +kernel), List.mem_of_getElem? (i := 1254) (by decide +kernel)⟩
theorem lw_p90 : lw_okq (⟨"StatuteBookModel", "toldWord", "(II)I"⟩, 31) := ⟨⟨by decide +kernel, by decide +kernel⟩, List.mem_of_getElem? (i := 911) (by decide +kernel), List.mem_of_getElem? (i := 1261) (by decide +kernel), List.mem_of_getElem? (i := 1262) (by decide +kernel)⟩
theorem lw_p91 : lw_okq (⟨"StatuteBookModel", "printsNumber", "(I)V"⟩, 31) := ⟨⟨by decide +kernel, by decide +kernel⟩, List.mem_of_getElem? (i := 911) (by decide +kernel), List.mem_of_getElem? (i := 1277) (by decide +kernel), List.mem_of_getElem? (i := 1278) (by decide +kernel)⟩
theorem lw_p92 : lw_okq (⟨"StatuteBookModel", "printsInteger", "(I)V"⟩, 31) := ⟨⟨by decide +kernel, by decide +kernel⟩, List.mem_of_getElem? (i := 911) (by decide +kernel), List.mem_of_getElem? (i := 1281) (by decide +kernel), List.mem_of_getElem? (i := 1282) (by decide +kernel)⟩
theorem lw_p93 : lw_okq (⟨"StatuteBookModel", "prints", "(I)V"⟩, 31) := ⟨⟨by decide +kernel, by decide +kernel⟩, List.mem_of_getElem? (i := 911) (by decide +kernel), List.mem_of_getElem? (i := 1285) (by decide +kernel), List.mem_of_getElem? (i := 1286) (by decide +kernel)⟩
theorem lw_p94 : lw_okq (⟨"StatuteBookModel", "isIdentity", "(I)Z"⟩, 31) := ⟨⟨by decide +kernel, by decide +kernel⟩, List.mem_of_getElem? (i := 911) (by decide +kernel), List.mem_of_getElem? (i := 1297) (by decide +kernel), List.mem_of_getElem? (i := 1298) (by decide +kernel)⟩
theorem lw_p95 : lw_okq (⟨"StatuteBookModel", "setsAside", "()V"⟩, 31) := ⟨⟨by decide +kernel, by decide +kernel⟩, List.mem_of_getElem? (i := 911) (by decide +kernel), List.mem_of_getElem? (i := 1305) (by decide +kernel), List.mem_of_getElem? (i := 1306) (by decide +kernel)⟩
def lw_privs_6 : List (MethodName × Nat) := [(⟨"StatuteBookModel", "areReferred", "(I)Z"⟩, 31), (⟨"StatuteBookModel", "setsText", "(II)V"⟩, 31), (⟨"StatuteBookModel", "statusOf", "(I)I"⟩, 31), (⟨"StatuteBookModel", "amendmentOf", "(I)I"⟩, 31), (⟨"StatuteBookModel", "isOperation", "(II)Z"⟩, 31), (⟨"StatuteBookModel", "told", "(II)I"⟩, 31), (⟨"StatuteBookModel", "inForce", "()I"⟩, 31), (⟨"StatuteBookModel", "atIndex", "(I)I"⟩, 31), (⟨"StatuteBookModel", "indexOf", "(I)I"⟩, 31), (⟨"StatuteBookModel", "about", "(II)I"⟩, 31), (⟨"StatuteBookModel", "toldWord", "(II)I"⟩, 31), (⟨"StatuteBookModel", "printsNumber", "(I)V"⟩, 31), (⟨"StatuteBookModel", "printsInteger", "(I)V"⟩, 31), (⟨"StatuteBookModel", "prints", "(I)V"⟩, 31), (⟨"StatuteBookModel", "isIdentity", "(I)Z"⟩, 31), (⟨"StatuteBookModel", "setsAside", "()V"⟩, 31)]
theorem lw_r6 : ∀ q ∈ lw_privs_6, lw_okq q := List.forall_mem_cons.mpr ⟨lw_p80, List.forall_mem_cons.mpr ⟨lw_p81, List.forall_mem_cons.mpr ⟨lw_p82, List.forall_mem_cons.mpr ⟨lw_p83, List.forall_mem_cons.mpr ⟨lw_p84, List.forall_mem_cons.mpr ⟨lw_p85, List.forall_mem_cons.mpr ⟨lw_p86, List.forall_mem_cons.mpr ⟨lw_p87, List.forall_mem_cons.mpr ⟨lw_p88, List.forall_mem_cons.mpr ⟨lw_p89, List.forall_mem_cons.mpr ⟨lw_p90, List.forall_mem_cons.mpr ⟨lw_p91, List.forall_mem_cons.mpr ⟨lw_p92, List.forall_mem_cons.mpr ⟨lw_p93, List.forall_mem_cons.mpr ⟨lw_p94, List.forall_mem_cons.mpr ⟨lw_p95, fun _ h => absurd h List.not_mem_nil⟩⟩⟩⟩⟩⟩⟩⟩⟩⟩⟩⟩⟩⟩⟩⟩
theorem lw_p96 : lw_okq (⟨"StatuteBookModel", "isSameText", "(I)Z"⟩, 31) := ⟨⟨by decide +kernel, by decide +kernel⟩, List.mem_of_getElem? (i := 911) (by decide +kernel), List.mem_of_getElem? (i := 1309) (by decide +kernel), List.mem_of_getElem? (i := 1310) (by decide +kernel)⟩
theorem lw_p97 : lw_okq (⟨"StatuteBookModel", "withWord", "(I)I"⟩, 31) := ⟨⟨by decide +kernel, by decide +kernel⟩, List.mem_of_getElem? (i := 911) (by decide +kernel), List.mem_of_getElem? (i := 1317) (by decide +kernel), List.mem_of_getElem? (i := 1318) (by decide +kernel)⟩
theorem lw_p98 : lw_okq (⟨"StatuteBookModel", "spreads", "(I)Z"⟩, 31) := ⟨⟨by decide +kernel, by decide +kernel⟩, List.mem_of_getElem? (i := 911) (by decide +kernel), List.mem_of_getElem? (i := 1329) (by decide +kernel), List.mem_of_getElem? (i := 1330) (by decide +kernel)⟩
theorem lw_p99 : lw_okq (⟨"StatuteBookModel", "refers", "(II)Z"⟩, 31) := ⟨⟨by decide +kernel, by decide +kernel⟩, List.mem_of_getElem? (i := 911) (by decide +kernel), List.mem_of_getElem? (i := 1333) (by decide +kernel), List.mem_of_getElem? (i := 1334) (by decide +kernel)⟩
theorem lw_p100 : lw_okq (⟨"StatuteBookModel", "areInConflict", "(II)Z"⟩, 31) := ⟨⟨by decide +kernel, by decide +kernel⟩, List.mem_of_getElem? (i := 911) (by decide +kernel), List.mem_of_getElem? (i := 1341) (by decide +kernel), List.mem_of_getElem? (i := 1342) (by decide +kernel)⟩
theorem lw_p101 : lw_okq (⟨"StatuteBookModel", "ofConflict", "(III)I"⟩, 31) := ⟨⟨by decide +kernel, by decide +kernel⟩, List.mem_of_getElem? (i := 911) (by decide +kernel), List.mem_of_getElem? (i := 1349) (by decide +kernel), List.mem_of_getElem? (i := 1350) (by decide +kernel)⟩
theorem lw_p102 : lw_okq (⟨"StatuteBookModel", "isGone", "(IIII)Z"⟩, 31) := ⟨⟨by decide +kernel, by decide +kernel⟩, List.mem_of_getElem? (i := 911) (by decide +kernel), List.mem_of_getElem? (i := 1361) (by decide +kernel), List.mem_of_getElem? (i := 1362) (by decide +kernel)⟩
theorem lw_p103 : lw_okq (⟨"StatuteBookModel", "renumbers", "(II)V"⟩, 31) := ⟨⟨by decide +kernel, by decide +kernel⟩, List.mem_of_getElem? (i := 911) (by decide +kernel), List.mem_of_getElem? (i := 1376) (by decide +kernel), List.mem_of_getElem? (i := 1377) (by decide +kernel)⟩
theorem lw_p104 : lw_okq (⟨"StatuteBookModel", "revoked", "()I"⟩, 31) := ⟨⟨by decide +kernel, by decide +kernel⟩, List.mem_of_getElem? (i := 911) (by decide +kernel), List.mem_of_getElem? (i := 1392) (by decide +kernel), List.mem_of_getElem? (i := 1393) (by decide +kernel)⟩
theorem lw_p105 : lw_okq (⟨"StatuteBookModel", "mixes", "(J)V"⟩, 31) := ⟨⟨by decide +kernel, by decide +kernel⟩, List.mem_of_getElem? (i := 911) (by decide +kernel), List.mem_of_getElem? (i := 1403) (by decide +kernel), List.mem_of_getElem? (i := 1404) (by decide +kernel)⟩
theorem lw_p106 : lw_okq (⟨"StatuteBookModel", "mixesAmendment", "(I)V"⟩, 31) := ⟨⟨by decide +kernel, by decide +kernel⟩, List.mem_of_getElem? (i := 911) (by decide +kernel), List.mem_of_getElem? (i := 1408) (by decide +kernel), List.mem_of_getElem? (i := 1409) (by decide +kernel)⟩
theorem lw_p107 : lw_okq (⟨"StatuteBookModel", "mixesLaw", "()V"⟩, 31) := ⟨⟨by decide +kernel, by decide +kernel⟩, List.mem_of_getElem? (i := 911) (by decide +kernel), List.mem_of_getElem? (i := 1413) (by decide +kernel), List.mem_of_getElem? (i := 1414) (by decide +kernel)⟩
def lw_privs_7 : List (MethodName × Nat) := [(⟨"StatuteBookModel", "isSameText", "(I)Z"⟩, 31), (⟨"StatuteBookModel", "withWord", "(I)I"⟩, 31), (⟨"StatuteBookModel", "spreads", "(I)Z"⟩, 31), (⟨"StatuteBookModel", "refers", "(II)Z"⟩, 31), (⟨"StatuteBookModel", "areInConflict", "(II)Z"⟩, 31), (⟨"StatuteBookModel", "ofConflict", "(III)I"⟩, 31), (⟨"StatuteBookModel", "isGone", "(IIII)Z"⟩, 31), (⟨"StatuteBookModel", "renumbers", "(II)V"⟩, 31), (⟨"StatuteBookModel", "revoked", "()I"⟩, 31), (⟨"StatuteBookModel", "mixes", "(J)V"⟩, 31), (⟨"StatuteBookModel", "mixesAmendment", "(I)V"⟩, 31), (⟨"StatuteBookModel", "mixesLaw", "()V"⟩, 31)]
theorem lw_r7 : ∀ q ∈ lw_privs_7, lw_okq q := List.forall_mem_cons.mpr ⟨lw_p96, List.forall_mem_cons.mpr ⟨lw_p97, List.forall_mem_cons.mpr ⟨lw_p98, List.forall_mem_cons.mpr ⟨lw_p99, List.forall_mem_cons.mpr ⟨lw_p100, List.forall_mem_cons.mpr ⟨lw_p101, List.forall_mem_cons.mpr ⟨lw_p102, List.forall_mem_cons.mpr ⟨lw_p103, List.forall_mem_cons.mpr ⟨lw_p104, List.forall_mem_cons.mpr ⟨lw_p105, List.forall_mem_cons.mpr ⟨lw_p106, List.forall_mem_cons.mpr ⟨lw_p107, fun _ h => absurd h List.not_mem_nil⟩⟩⟩⟩⟩⟩⟩⟩⟩⟩⟩⟩
def lw_privs : List (MethodName × Nat) := lw_privs_1 ++ (lw_privs_2 ++ (lw_privs_3 ++ (lw_privs_4 ++ (lw_privs_5 ++ (lw_privs_6 ++ (lw_privs_7))))))
def lw_tbl : List Cond := k2_sels lw_privs ++ tables_1
theorem lw_privs_ok : ∀ q ∈ lw_privs, lw_okq q := by
  show ∀ q ∈ lw_privs_1 ++ (lw_privs_2 ++ (lw_privs_3 ++ (lw_privs_4 ++ (lw_privs_5 ++ (lw_privs_6 ++ (lw_privs_7)))))), lw_okq q
  exact List.forall_mem_append.mpr ⟨lw_r1, List.forall_mem_append.mpr ⟨lw_r2, List.forall_mem_append.mpr ⟨lw_r3, List.forall_mem_append.mpr ⟨lw_r4, List.forall_mem_append.mpr ⟨lw_r5, List.forall_mem_append.mpr ⟨lw_r6, lw_r7⟩⟩⟩⟩⟩⟩

/-- the words of the tables that stay, whatever is warmed -/
def am_tbl : List Cond := lw_tbl.filter goodWord
theorem am_mem {w : Cond} {i : Nat} (h : lw_tbl[i]? = some w) (g : goodWord w = true) : w ∈ am_tbl := List.mem_filter.mpr ⟨List.mem_of_getElem? h, g⟩
theorem am_tbl_good : am_tbl.all goodWord = true := List.all_eq_true.mpr fun w h => (List.mem_filter.mp h).2
theorem am_tbl_before {args : Array Value} {s : State} (h : ∀ w ∈ lw_tbl, w.before args s = true) : ∀ w ∈ am_tbl, w.before args s = true := fun w hw => h w (List.mem_filter.mp hw).1
def RX0 : String := "StatuteBook$Amendments"
def TX0 : u_T := fun k => match k with
  | _ => ("StatuteBook$Amendments", "cells", "LStatuteBook$Row;", true)
def tyX0 : Nat → FieldType := fun k => match k with
  | _ => .object "StatuteBook$Row"
abbrev wsX00 : List Cond := u_ws RX0 TX0 1
theorem nmX0 : ∀ a, a < 1 → ∀ b, b < 1 → a ≠ b → (TX0 a).2.1 ≠ (TX0 b).2.1 := by decide +kernel
theorem tyX0_ok : ∀ k, k < 1 → parseFieldDescriptor (TX0 k).2.2.1 = some (tyX0 k) := by decide +kernel
def RX1 : String := "StatuteBook$Archive"
def TX1 : u_T := fun k => match k with
  | 0 => ("StatuteBook$Archive", "cells", "LStatuteBook$Row;", true)
  | 1 => ("StatuteBook$Archive", "states", "I", false)
  | 2 => ("StatuteBook$Archive", "newest", "I", false)
  | _ => ("StatuteBook$Archive", "saved", "I", false)
def tyX1 : Nat → FieldType := fun k => match k with
  | 0 => .object "StatuteBook$Row"
  | 1 => .int
  | 2 => .int
  | _ => .int
abbrev wsX10 : List Cond := u_ws RX1 TX1 4
theorem nmX1 : ∀ a, a < 4 → ∀ b, b < 4 → a ≠ b → (TX1 a).2.1 ≠ (TX1 b).2.1 := by decide +kernel
theorem tyX1_ok : ∀ k, k < 4 → parseFieldDescriptor (TX1 k).2.2.1 = some (tyX1 k) := by decide +kernel
def RX2 : String := "StatuteBook$Draft"
def TX2 : u_T := fun k => match k with
  | 0 => ("StatuteBook$Draft", "cells", "LStatuteBook$Row;", true)
  | 1 => ("StatuteBook$Draft", "size", "I", false)
  | _ => ("StatuteBook$Draft", "inserts", "I", false)
def tyX2 : Nat → FieldType := fun k => match k with
  | 0 => .object "StatuteBook$Row"
  | 1 => .int
  | _ => .int
abbrev wsX20 : List Cond := u_ws RX2 TX2 3
theorem nmX2 : ∀ a, a < 3 → ∀ b, b < 3 → a ≠ b → (TX2 a).2.1 ≠ (TX2 b).2.1 := by decide +kernel
theorem tyX2_ok : ∀ k, k < 3 → parseFieldDescriptor (TX2 k).2.2.1 = some (tyX2 k) := by decide +kernel
def RX3 : String := "StatuteBook$Law"
def TX3 : u_T := fun k => match k with
  | 0 => ("StatuteBook$Law", "codes", "LStatuteBook$Row;", true)
  | 1 => ("StatuteBook$Law", "lastDays", "LStatuteBook$Row;", true)
  | 2 => ("StatuteBook$Law", "lengths", "LStatuteBook$Row;", true)
  | 3 => ("StatuteBook$Law", "texts", "LStatuteBook$Row;", true)
  | 4 => ("StatuteBook$Law", "order", "LStatuteBook$Row;", true)
  | 5 => ("StatuteBook$Law", "statuses", "LStatuteBook$Row;", true)
  | 6 => ("StatuteBook$Law", "affected", "LStatuteBook$Row;", true)
  | 7 => ("StatuteBook$Law", "effects", "LStatuteBook$Row;", true)
  | 8 => ("StatuteBook$Law", "resolved", "LStatuteBook$Row;", true)
  | 9 => ("StatuteBook$Law", "size", "I", false)
  | _ => ("StatuteBook$Law", "effectCount", "I", false)
def tyX3 : Nat → FieldType := fun k => match k with
  | 0 => .object "StatuteBook$Row"
  | 1 => .object "StatuteBook$Row"
  | 2 => .object "StatuteBook$Row"
  | 3 => .object "StatuteBook$Row"
  | 4 => .object "StatuteBook$Row"
  | 5 => .object "StatuteBook$Row"
  | 6 => .object "StatuteBook$Row"
  | 7 => .object "StatuteBook$Row"
  | 8 => .object "StatuteBook$Row"
  | 9 => .int
  | _ => .int
abbrev wsX30 : List Cond := u_ws RX3 TX3 11
theorem nmX3 : ∀ a, a < 11 → ∀ b, b < 11 → a ≠ b → (TX3 a).2.1 ≠ (TX3 b).2.1 := by decide +kernel
theorem tyX3_ok : ∀ k, k < 11 → parseFieldDescriptor (TX3 k).2.2.1 = some (tyX3 k) := by decide +kernel
def RX4 : String := "StatuteBook$Page"
def TX4 : u_T := fun k => match k with
  | 0 => ("StatuteBook$Page", "bytes", "[I", true)
  | _ => ("StatuteBook$Page", "written", "I", false)
def tyX4 : Nat → FieldType := fun k => match k with
  | 0 => .array .int
  | _ => .int
abbrev wsX40 : List Cond := u_ws RX4 TX4 2
theorem nmX4 : ∀ a, a < 2 → ∀ b, b < 2 → a ≠ b → (TX4 a).2.1 ≠ (TX4 b).2.1 := by decide +kernel
theorem tyX4_ok : ∀ k, k < 2 → parseFieldDescriptor (TX4 k).2.2.1 = some (tyX4 k) := by decide +kernel
def RX5 : String := "StatuteBook$Reader"
def TX5 : u_T := fun k => match k with
  | 0 => ("StatuteBook$Reader", "text", "LStatuteBook$Page;", true)
  | 1 => ("StatuteBook$Reader", "draft", "LStatuteBook$Draft;", true)
  | 2 => ("StatuteBook$Reader", "place", "I", false)
  | _ => ("StatuteBook$Reader", "fault", "I", false)
def tyX5 : Nat → FieldType := fun k => match k with
  | 0 => .object "StatuteBook$Page"
  | 1 => .object "StatuteBook$Draft"
  | 2 => .int
  | _ => .int
abbrev wsX50 : List Cond := u_ws RX5 TX5 4
theorem nmX5 : ∀ a, a < 4 → ∀ b, b < 4 → a ≠ b → (TX5 a).2.1 ≠ (TX5 b).2.1 := by decide +kernel
theorem tyX5_ok : ∀ k, k < 4 → parseFieldDescriptor (TX5 k).2.2.1 = some (tyX5 k) := by decide +kernel
def RX6 : String := "StatuteBook$Row"
def TX6 : u_T := fun k => match k with
  | _ => ("StatuteBook$Row", "cells", "[I", true)
def tyX6 : Nat → FieldType := fun k => match k with
  | _ => .array .int
abbrev wsX60 : List Cond := u_ws RX6 TX6 1
theorem nmX6 : ∀ a, a < 1 → ∀ b, b < 1 → a ≠ b → (TX6 a).2.1 ≠ (TX6 b).2.1 := by decide +kernel
theorem tyX6_ok : ∀ k, k < 1 → parseFieldDescriptor (TX6 k).2.2.1 = some (tyX6 k) := by decide +kernel
def RX7 : String := "StatuteBook$Walk"
def TX7 : u_T := fun k => match k with
  | 0 => ("StatuteBook$Walk", "distances", "LStatuteBook$Row;", true)
  | 1 => ("StatuteBook$Walk", "queue", "LStatuteBook$Row;", true)
  | 2 => ("StatuteBook$Walk", "reached", "I", false)
  | _ => ("StatuteBook$Walk", "comesBack", "Z", false)
def tyX7 : Nat → FieldType := fun k => match k with
  | 0 => .object "StatuteBook$Row"
  | 1 => .object "StatuteBook$Row"
  | 2 => .int
  | _ => .boolean
abbrev wsX70 : List Cond := u_ws RX7 TX7 4
theorem nmX7 : ∀ a, a < 4 → ∀ b, b < 4 → a ≠ b → (TX7 a).2.1 ≠ (TX7 b).2.1 := by decide +kernel
theorem tyX7_ok : ∀ k, k < 4 → parseFieldDescriptor (TX7 k).2.2.1 = some (tyX7 k) := by decide +kernel
def RX8 : String := "StatuteBook"
def TX8 : u_T := fun k => match k with
  | 0 => ("StatuteBook", "reader", "LStatuteBook$Reader;", true)
  | 1 => ("StatuteBook", "output", "LStatuteBook$Page;", true)
  | 2 => ("StatuteBook", "book", "LStatuteBook$Amendments;", true)
  | 3 => ("StatuteBook", "archive", "LStatuteBook$Archive;", true)
  | 4 => ("StatuteBook", "law", "LStatuteBook$Law;", true)
  | 5 => ("StatuteBook", "otherLaw", "LStatuteBook$Law;", true)
  | _ => ("StatuteBook", "walk", "LStatuteBook$Walk;", true)
def tyX8 : Nat → FieldType := fun k => match k with
  | 0 => .object "StatuteBook$Reader"
  | 1 => .object "StatuteBook$Page"
  | 2 => .object "StatuteBook$Amendments"
  | 3 => .object "StatuteBook$Archive"
  | 4 => .object "StatuteBook$Law"
  | 5 => .object "StatuteBook$Law"
  | _ => .object "StatuteBook$Walk"
abbrev wsX80 : List Cond := u_ws RX8 TX8 7
theorem nmX8 : ∀ a, a < 7 → ∀ b, b < 7 → a ≠ b → (TX8 a).2.1 ≠ (TX8 b).2.1 := by decide +kernel
theorem tyX8_ok : ∀ k, k < 7 → parseFieldDescriptor (TX8 k).2.2.1 = some (tyX8 k) := by decide +kernel
def RX9 : String := "StatuteBookModel"
def TX9 : u_T := fun k => match k with
  | 0 => ("StatuteBookModel", "m", "[I", true)
  | 1 => ("StatuteBookModel", "past", "[I", true)
  | 2 => ("StatuteBookModel", "undos", "I", false)
  | 3 => ("StatuteBookModel", "saved", "[I", true)
  | 4 => ("StatuteBookModel", "isSaved", "[I", true)
  | 5 => ("StatuteBookModel", "off", "[I", true)
  | 6 => ("StatuteBookModel", "force", "[I", true)
  | 7 => ("StatuteBookModel", "code", "[I", true)
  | 8 => ("StatuteBookModel", "size", "[I", true)
  | 9 => ("StatuteBookModel", "words", "[I", true)
  | 10 => ("StatuteBookModel", "latest", "[I", true)
  | 11 => ("StatuteBookModel", "reason", "[I", true)
  | 12 => ("StatuteBookModel", "clauseOf", "[I", true)
  | 13 => ("StatuteBookModel", "sequence", "[I", true)
  | 14 => ("StatuteBookModel", "carried", "I", false)
  | 15 => ("StatuteBookModel", "made", "[I", true)
  | 16 => ("StatuteBookModel", "text", "[I", true)
  | 17 => ("StatuteBookModel", "length", "I", false)
  | 18 => ("StatuteBookModel", "at", "I", false)
  | 19 => ("StatuteBookModel", "fault", "I", false)
  | 20 => ("StatuteBookModel", "read", "[I", true)
  | 21 => ("StatuteBookModel", "reads", "I", false)
  | 22 => ("StatuteBookModel", "output", "[I", true)
  | 23 => ("StatuteBookModel", "kept", "I", false)
  | 24 => ("StatuteBookModel", "printed", "I", false)
  | 25 => ("StatuteBookModel", "thatForce", "[I", true)
  | 26 => ("StatuteBookModel", "thatCode", "[I", true)
  | 27 => ("StatuteBookModel", "thatSize", "[I", true)
  | 28 => ("StatuteBookModel", "thatWords", "[I", true)
  | 29 => ("StatuteBookModel", "far", "[I", true)
  | _ => ("StatuteBookModel", "hash", "J", false)
def tyX9 : Nat → FieldType := fun k => match k with
  | 0 => .array .int
  | 1 => .array .int
  | 2 => .int
  | 3 => .array .int
  | 4 => .array .int
  | 5 => .array .int
  | 6 => .array .int
  | 7 => .array .int
  | 8 => .array .int
  | 9 => .array .int
  | 10 => .array .int
  | 11 => .array .int
  | 12 => .array .int
  | 13 => .array .int
  | 14 => .int
  | 15 => .array .int
  | 16 => .array .int
  | 17 => .int
  | 18 => .int
  | 19 => .int
  | 20 => .array .int
  | 21 => .int
  | 22 => .array .int
  | 23 => .int
  | 24 => .int
  | 25 => .array .int
  | 26 => .array .int
  | 27 => .array .int
  | 28 => .array .int
  | 29 => .array .int
  | _ => .long
abbrev wsX90 : List Cond := u_ws RX9 TX9 31
theorem nmX9 : ∀ a, a < 31 → ∀ b, b < 31 → a ≠ b → (TX9 a).2.1 ≠ (TX9 b).2.1 := by decide +kernel
theorem tyX9_ok : ∀ k, k < 31 → parseFieldDescriptor (TX9 k).2.2.1 = some (tyX9 k) := by decide +kernel
theorem am_ws0 : ∀ w ∈ u_ws RX0 TX0 1, w ∈ am_tbl := by
  intro w hw
  obtain ⟨k, hk, rfl⟩ := List.mem_map.mp hw
  have hk := List.mem_range.mp hk
  have h : ∀ k, k < 1 → ∃ i : Nat, lw_tbl[i]? = some (u_lay RX0 TX0 k) ∧ goodWord (u_lay RX0 TX0 k) = true := by
    intro k hk
    match k, hk with
    | 0, _ => exact ⟨213, by decide +kernel, by decide +kernel⟩
    | k + 1, hk => exact absurd hk (by omega)
  obtain ⟨i, h1, h2⟩ := h k hk
  exact am_mem h1 h2
theorem am_ws1 : ∀ w ∈ u_ws RX1 TX1 4, w ∈ am_tbl := by
  intro w hw
  obtain ⟨k, hk, rfl⟩ := List.mem_map.mp hw
  have hk := List.mem_range.mp hk
  have h : ∀ k, k < 4 → ∃ i : Nat, lw_tbl[i]? = some (u_lay RX1 TX1 k) ∧ goodWord (u_lay RX1 TX1 k) = true := by
    intro k hk
    match k, hk with
    | 0, _ => exact ⟨228, by decide +kernel, by decide +kernel⟩
    | 1, _ => exact ⟨230, by decide +kernel, by decide +kernel⟩
    | 2, _ => exact ⟨232, by decide +kernel, by decide +kernel⟩
    | 3, _ => exact ⟨234, by decide +kernel, by decide +kernel⟩
    | k + 4, hk => exact absurd hk (by omega)
  obtain ⟨i, h1, h2⟩ := h k hk
  exact am_mem h1 h2
theorem am_ws2 : ∀ w ∈ u_ws RX2 TX2 3, w ∈ am_tbl := by
  intro w hw
  obtain ⟨k, hk, rfl⟩ := List.mem_map.mp hw
  have hk := List.mem_range.mp hk
  have h : ∀ k, k < 3 → ∃ i : Nat, lw_tbl[i]? = some (u_lay RX2 TX2 k) ∧ goodWord (u_lay RX2 TX2 k) = true := by
    intro k hk
    match k, hk with
    | 0, _ => exact ⟨179, by decide +kernel, by decide +kernel⟩
    | 1, _ => exact ⟨181, by decide +kernel, by decide +kernel⟩
    | 2, _ => exact ⟨183, by decide +kernel, by decide +kernel⟩
    | k + 3, hk => exact absurd hk (by omega)
  obtain ⟨i, h1, h2⟩ := h k hk
  exact am_mem h1 h2
theorem am_ws3 : ∀ w ∈ u_ws RX3 TX3 11, w ∈ am_tbl := by
  intro w hw
  obtain ⟨k, hk, rfl⟩ := List.mem_map.mp hw
  have hk := List.mem_range.mp hk
  have h : ∀ k, k < 11 → ∃ i : Nat, lw_tbl[i]? = some (u_lay RX3 TX3 k) ∧ goodWord (u_lay RX3 TX3 k) = true := by
    intro k hk
    match k, hk with
    | 0, _ => exact ⟨256, by decide +kernel, by decide +kernel⟩
    | 1, _ => exact ⟨258, by decide +kernel, by decide +kernel⟩
    | 2, _ => exact ⟨260, by decide +kernel, by decide +kernel⟩
    | 3, _ => exact ⟨262, by decide +kernel, by decide +kernel⟩
    | 4, _ => exact ⟨264, by decide +kernel, by decide +kernel⟩
    | 5, _ => exact ⟨266, by decide +kernel, by decide +kernel⟩
    | 6, _ => exact ⟨268, by decide +kernel, by decide +kernel⟩
    | 7, _ => exact ⟨270, by decide +kernel, by decide +kernel⟩
    | 8, _ => exact ⟨272, by decide +kernel, by decide +kernel⟩
    | 9, _ => exact ⟨274, by decide +kernel, by decide +kernel⟩
    | 10, _ => exact ⟨276, by decide +kernel, by decide +kernel⟩
    | k + 11, hk => exact absurd hk (by omega)
  obtain ⟨i, h1, h2⟩ := h k hk
  exact am_mem h1 h2
theorem am_ws4 : ∀ w ∈ u_ws RX4 TX4 2, w ∈ am_tbl := by
  intro w hw
  obtain ⟨k, hk, rfl⟩ := List.mem_map.mp hw
  have hk := List.mem_range.mp hk
  have h : ∀ k, k < 2 → ∃ i : Nat, lw_tbl[i]? = some (u_lay RX4 TX4 k) ∧ goodWord (u_lay RX4 TX4 k) = true := by
    intro k hk
    match k, hk with
    | 0, _ => exact ⟨152, by decide +kernel, by decide +kernel⟩
    | 1, _ => exact ⟨154, by decide +kernel, by decide +kernel⟩
    | k + 2, hk => exact absurd hk (by omega)
  obtain ⟨i, h1, h2⟩ := h k hk
  exact am_mem h1 h2
theorem am_ws5 : ∀ w ∈ u_ws RX5 TX5 4, w ∈ am_tbl := by
  intro w hw
  obtain ⟨k, hk, rfl⟩ := List.mem_map.mp hw
  have hk := List.mem_range.mp hk
  have h : ∀ k, k < 4 → ∃ i : Nat, lw_tbl[i]? = some (u_lay RX5 TX5 k) ∧ goodWord (u_lay RX5 TX5 k) = true := by
    intro k hk
    match k, hk with
    | 0, _ => exact ⟨192, by decide +kernel, by decide +kernel⟩
    | 1, _ => exact ⟨194, by decide +kernel, by decide +kernel⟩
    | 2, _ => exact ⟨196, by decide +kernel, by decide +kernel⟩
    | 3, _ => exact ⟨198, by decide +kernel, by decide +kernel⟩
    | k + 4, hk => exact absurd hk (by omega)
  obtain ⟨i, h1, h2⟩ := h k hk
  exact am_mem h1 h2
theorem am_ws6 : ∀ w ∈ u_ws RX6 TX6 1, w ∈ am_tbl := by
  intro w hw
  obtain ⟨k, hk, rfl⟩ := List.mem_map.mp hw
  have hk := List.mem_range.mp hk
  have h : ∀ k, k < 1 → ∃ i : Nat, lw_tbl[i]? = some (u_lay RX6 TX6 k) ∧ goodWord (u_lay RX6 TX6 k) = true := by
    intro k hk
    match k, hk with
    | 0, _ => exact ⟨172, by decide +kernel, by decide +kernel⟩
    | k + 1, hk => exact absurd hk (by omega)
  obtain ⟨i, h1, h2⟩ := h k hk
  exact am_mem h1 h2
theorem am_ws7 : ∀ w ∈ u_ws RX7 TX7 4, w ∈ am_tbl := by
  intro w hw
  obtain ⟨k, hk, rfl⟩ := List.mem_map.mp hw
  have hk := List.mem_range.mp hk
  have h : ∀ k, k < 4 → ∃ i : Nat, lw_tbl[i]? = some (u_lay RX7 TX7 k) ∧ goodWord (u_lay RX7 TX7 k) = true := by
    intro k hk
    match k, hk with
    | 0, _ => exact ⟨291, by decide +kernel, by decide +kernel⟩
    | 1, _ => exact ⟨293, by decide +kernel, by decide +kernel⟩
    | 2, _ => exact ⟨295, by decide +kernel, by decide +kernel⟩
    | 3, _ => exact ⟨297, by decide +kernel, by decide +kernel⟩
    | k + 4, hk => exact absurd hk (by omega)
  obtain ⟨i, h1, h2⟩ := h k hk
  exact am_mem h1 h2
theorem am_ws8 : ∀ w ∈ u_ws RX8 TX8 7, w ∈ am_tbl := by
  intro w hw
  obtain ⟨k, hk, rfl⟩ := List.mem_map.mp hw
  have hk := List.mem_range.mp hk
  have h : ∀ k, k < 7 → ∃ i : Nat, lw_tbl[i]? = some (u_lay RX8 TX8 k) ∧ goodWord (u_lay RX8 TX8 k) = true := by
    intro k hk
    match k, hk with
    | 0, _ => exact ⟨307, by decide +kernel, by decide +kernel⟩
    | 1, _ => exact ⟨309, by decide +kernel, by decide +kernel⟩
    | 2, _ => exact ⟨311, by decide +kernel, by decide +kernel⟩
    | 3, _ => exact ⟨313, by decide +kernel, by decide +kernel⟩
    | 4, _ => exact ⟨315, by decide +kernel, by decide +kernel⟩
    | 5, _ => exact ⟨317, by decide +kernel, by decide +kernel⟩
    | 6, _ => exact ⟨319, by decide +kernel, by decide +kernel⟩
    | k + 7, hk => exact absurd hk (by omega)
  obtain ⟨i, h1, h2⟩ := h k hk
  exact am_mem h1 h2
theorem am_ws9 : ∀ w ∈ u_ws RX9 TX9 31, w ∈ am_tbl := by
  intro w hw
  obtain ⟨k, hk, rfl⟩ := List.mem_map.mp hw
  have hk := List.mem_range.mp hk
  have h : ∀ k, k < 31 → ∃ i : Nat, lw_tbl[i]? = some (u_lay RX9 TX9 k) ∧ goodWord (u_lay RX9 TX9 k) = true := by
    intro k hk
    match k, hk with
    | 0, _ => exact ⟨1055, by decide +kernel, by decide +kernel⟩
    | 1, _ => exact ⟨1057, by decide +kernel, by decide +kernel⟩
    | 2, _ => exact ⟨1059, by decide +kernel, by decide +kernel⟩
    | 3, _ => exact ⟨1061, by decide +kernel, by decide +kernel⟩
    | 4, _ => exact ⟨1063, by decide +kernel, by decide +kernel⟩
    | 5, _ => exact ⟨1065, by decide +kernel, by decide +kernel⟩
    | 6, _ => exact ⟨1067, by decide +kernel, by decide +kernel⟩
    | 7, _ => exact ⟨1069, by decide +kernel, by decide +kernel⟩
    | 8, _ => exact ⟨1071, by decide +kernel, by decide +kernel⟩
    | 9, _ => exact ⟨1073, by decide +kernel, by decide +kernel⟩
    | 10, _ => exact ⟨1075, by decide +kernel, by decide +kernel⟩
    | 11, _ => exact ⟨1077, by decide +kernel, by decide +kernel⟩
    | 12, _ => exact ⟨1079, by decide +kernel, by decide +kernel⟩
    | 13, _ => exact ⟨1081, by decide +kernel, by decide +kernel⟩
    | 14, _ => exact ⟨1083, by decide +kernel, by decide +kernel⟩
    | 15, _ => exact ⟨1085, by decide +kernel, by decide +kernel⟩
    | 16, _ => exact ⟨1087, by decide +kernel, by decide +kernel⟩
    | 17, _ => exact ⟨1089, by decide +kernel, by decide +kernel⟩
    | 18, _ => exact ⟨1091, by decide +kernel, by decide +kernel⟩
    | 19, _ => exact ⟨1093, by decide +kernel, by decide +kernel⟩
    | 20, _ => exact ⟨1095, by decide +kernel, by decide +kernel⟩
    | 21, _ => exact ⟨1097, by decide +kernel, by decide +kernel⟩
    | 22, _ => exact ⟨1099, by decide +kernel, by decide +kernel⟩
    | 23, _ => exact ⟨1101, by decide +kernel, by decide +kernel⟩
    | 24, _ => exact ⟨1103, by decide +kernel, by decide +kernel⟩
    | 25, _ => exact ⟨1105, by decide +kernel, by decide +kernel⟩
    | 26, _ => exact ⟨1107, by decide +kernel, by decide +kernel⟩
    | 27, _ => exact ⟨1109, by decide +kernel, by decide +kernel⟩
    | 28, _ => exact ⟨1111, by decide +kernel, by decide +kernel⟩
    | 29, _ => exact ⟨1113, by decide +kernel, by decide +kernel⟩
    | 30, _ => exact ⟨1115, by decide +kernel, by decide +kernel⟩
    | k + 31, hk => exact absurd hk (by omega)
  obtain ⟨i, h1, h2⟩ := h k hk
  exact am_mem h1 h2
